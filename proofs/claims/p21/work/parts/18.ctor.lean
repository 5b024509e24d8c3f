/-! THE MAKING OF BOTH OBJECTS: worlds as lists, one judgement -/
def kT (ac : Nat → ClassId) : List (ClassId × FieldType) := [(ac 0, .int), (ac 1, .boolean), (ac 2, .int), (ac 3, .int), (ac 4, .array .int)]
/-- the words of the private constructors' links -/
def kNw : List (Nat × MethodName) := [(22, yX0_init), (29, yX1_init), (36, yX4_init)]
def kX (g0 : va_G) (ac : Nat → ClassId) (U : State) : Prop := va_K g0 vwCl (kT ac) U ∧ va_AOA .int U ∧ ∀ q ∈ kNw, va_Nw (.methodLinkNest RX5 q.1 q.2 "FoundRegister") U
theorem kX_call {g0 : va_G} {ac : Nat → ClassId} {s U : State} (hW : s.WarmedH U.vm) (h : kX g0 ac s) : kX g0 ac U :=
  ⟨va_K.moved hW.alike h.1, Jvm.Stand.arrayOver_alikeB hW.alike h.2.1, fun q hq => va_Nw.warmM hW (h.2.2 q hq)⟩
theorem kX_same {g0 : va_G} {ac : Nat → ClassId} {u U : State} (h1 : U.vm = u.vm) (h : kX g0 ac u) : kX g0 ac U :=
  ⟨va_K.moved (by rw [h1]; exact Vm.Alike.refl u.vm) h.1, Jvm.Stand.arrayOver_alikeB (by rw [h1]; exact Vm.Alike.refl u.vm) h.2.1, fun q hq => va_Nw.same rfl h1.symm (h.2.2 q hq)⟩
def kF (p : Program) (c : Code) (cc : ByteArray) (nL : Nat) (s : State) (m : MethodId) (args : Array Value) (Ts : List Cond) (own : String) (g0 : va_G) (ac : Nat → ClassId) (A : Nat → Prop) : Prop :=
  p.tables.exec = Jvm.exec ∧ c.code = cc ∧ c.maxLocals = nL ∧ s.vm.findClass own = some m.cls ∧ (∀ w ∈ Ts, w.before args s = true) ∧ kX g0 ac s ∧ ∀ q : Nat, s.heap.size ≤ q → A q
def JC (p : Program) (l : Launch) (e : Env) (R : Room) (s : State) (m : MethodId) (args : Array Value) (below : List Frame) (meth : Method) (c : Code) (Q : State → Prop) (g0 : va_G) (A : Nat → Prop) (nL : Nat) (W0 : va_W) (k n pc : Nat) (L : List (Nat × Value)) (st : List Value) : Prop :=
  ∀ (H : Heap) (locs : List Loc) (ls : Array Slot), va_P g0 vwCl W0 H → va_D A W0 → va_S A s.heap H locs → lv_has ls nL L → W p l e R s m args below meth c H locs k n Q (F0 m pc ls st)
theorem va_RA_inj {s : State} {a b : ClassId} {ty : FieldType} (h1 : va_RA s a ty) (h2 : va_RA s b ty) : a = b := by
  cases ty with
  | object C =>
    obtain ⟨-, -, -, -, -, h3⟩ := h1
    obtain ⟨-, -, -, -, -, h4⟩ := h2
    exact Option.some.inj (h3.symm.trans h4)
  | _ => exact Option.some.inj (Eq.trans (Eq.symm h1) h2)
theorem arrV_cong {c : ClassId} {n : Nat} {f g : Nat → Value} (h : ∀ j, j < n → f j = g j) : arrV c n f = arrV c n g := by
  have e : (arrV c n f).slots = (arrV c n g).slots := by
    apply Array.ext_getElem?
    intro i
    by_cases hi : i < n
    · rw [arrV_read _ _ hi, arrV_read _ _ hi, h i hi]
    · rw [Array.getElem?_eq_none (by rw [arrV_size]; omega), Array.getElem?_eq_none (by rw [arrV_size]; omega)]
  exact congrArg (fun z => ({ cls := c, slots := z } : Cell)) e
theorem va_D_cong {A : Nat → Prop} {W1 W2 : va_W} (he : W1.map (fun q => q.1) = W2.map (fun q => q.1)) (h : va_D A W1) : va_D A W2 := by
  have at' : ∀ (k : Nat) (q : Nat × va_E), W2[k]? = some q → ∃ x, W1[k]? = some (q.1, x) := by
    intro k q hq
    have h1 : (W2.map (fun q => q.1))[k]? = some q.1 := by rw [List.getElem?_map, hq]; rfl
    rw [← he, List.getElem?_map] at h1
    cases h2 : W1[k]? with
    | none => rw [h2] at h1; cases h1
    | some y => rw [h2] at h1; obtain ⟨y1, y2⟩ := y; cases h1; exact ⟨y2, rfl⟩
  refine ⟨fun i j x y hi hj hxy => ?_, fun k q hk => ?_⟩
  · obtain ⟨x2, h1⟩ := at' i x hi
    obtain ⟨y2, h2⟩ := at' j y hj
    exact h.1 i j _ _ h1 h2 hxy
  · obtain ⟨x2, h1⟩ := at' k q hk
    exact h.2 k (q.1, x2) h1
theorem va_P_cong {D : va_G} {cl : List vw_C} {W1 W2 : va_W} {H : Heap} (hl : W1.length = W2.length) (he : ∀ (k : Nat) (x y : Nat × va_E), W1[k]? = some x → W2[k]? = some y → va_at D cl x H → va_at D cl y H) (h : va_P D cl W1 H) : va_P D cl W2 H := by
  intro k y hy
  have hk : k < W1.length := by rw [hl]; exact (List.getElem?_eq_some_iff.mp hy).1
  have hx : W1[k]? = some W1[k] := List.getElem?_eq_getElem hk
  exact he k _ y hx hy (h k _ hx)
section KJ
variable {p : Program} {l : Launch} {e : Env} {R : Room} {s : State} {m : MethodId} {args : Array Value} {below : List Frame} {meth : Method} {c : Code} {Q : State → Prop} {g0 : va_G} {ac : Nat → ClassId} {A : Nat → Prop} {nL : Nat} {W0 : va_W} {k n : Nat} {cc : ByteArray} {Ts : List Cond} {own : String} {pc : Nat} {L : List (Nat × Value)} {st : List Value}
theorem jc_w {W1 : va_W} (h : W0 = W1) (K : JC p l e R s m args below meth c Q g0 A nL W1 k n pc L st) : JC p l e R s m args below meth c Q g0 A nL W0 k n pc L st := h ▸ K
theorem jc_iconst (Z : kF p c cc nL s m args Ts own g0 ac A) {z : Int} {v : Int32} (d : decode cc pc = .ok (.iconst z, 1)) (hv : Int32.ofInt z = v) (K : JC p l e R s m args below meth c Q g0 A nL W0 k n (pc + 1) L (.int v :: st)) : JC p l e R s m args below meth c Q g0 A nL W0 k n pc L st :=
  fun H locs ls hP hD hS hl => lv_iconst Z.1 Z.2.1 d hv (K H locs ls hP hD hS hl)
theorem jc_bipush (Z : kF p c cc nL s m args Ts own g0 ac A) {z : Int} {v : Int32} (d : decode cc pc = .ok (.bipush z, 2)) (hv : (Int8.ofInt z).toInt32 = v) (K : JC p l e R s m args below meth c Q g0 A nL W0 k n (pc + 2) L (.int v :: st)) : JC p l e R s m args below meth c Q g0 A nL W0 k n pc L st :=
  fun H locs ls hP hD hS hl => lv_bipush Z.1 Z.2.1 d hv (K H locs ls hP hD hS hl)
theorem jc_sipush (Z : kF p c cc nL s m args Ts own g0 ac A) {z : Int} {v : Int32} (d : decode cc pc = .ok (.sipush z, 3)) (hv : (Int16.ofInt z).toInt32 = v) (K : JC p l e R s m args below meth c Q g0 A nL W0 k n (pc + 3) L (.int v :: st)) : JC p l e R s m args below meth c Q g0 A nL W0 k n pc L st :=
  fun H locs ls hP hD hS hl => lv_sipush Z.1 Z.2.1 d hv (K H locs ls hP hD hS hl)
theorem jc_dup (Z : kF p c cc nL s m args Ts own g0 ac A) {va : Value} (d : decode cc pc = .ok (.dup, 1)) (hva : va.category = 1) (K : JC p l e R s m args below meth c Q g0 A nL W0 k n (pc + 1) L (va :: va :: st)) : JC p l e R s m args below meth c Q g0 A nL W0 k n pc L (va :: st) :=
  fun H locs ls hP hD hS hl => lv_dup Z.1 Z.2.1 d hva (K H locs ls hP hD hS hl)
theorem jc_aload_n (Z : kF p c cc nL s m args Ts own g0 ac A) {z : Fin 4} {x : Nat} (d : decode cc pc = .ok (.aload_n z, 1)) (j : Nat) (hj : L[j]? = some ((z : Nat), .ref x)) (K : JC p l e R s m args below meth c Q g0 A nL W0 k n (pc + 1) L (.ref x :: st)) : JC p l e R s m args below meth c Q g0 A nL W0 k n pc L st :=
  fun H locs ls hP hD hS hl => lv_aload_n Z.1 Z.2.1 d rfl (lv_at hl j hj) (K H locs ls hP hD hS hl)
theorem jc_astore_n (Z : kF p c cc nL s m args Ts own g0 ac A) {z : Fin 4} {x : Nat} (d : decode cc pc = .ok (.astore_n z, 1)) (hn : (z : Nat) < nL) (L' : List (Nat × Value)) (hL : ((z : Nat), Value.ref x) :: L.filter (fun q => !(q.1 == (z : Nat)) && !(q.1 + 1 == (z : Nat) && q.2.category == 2)) = L') (K : JC p l e R s m args below meth c Q g0 A nL W0 k n (pc + 1) L' st) : JC p l e R s m args below meth c Q g0 A nL W0 k n pc L (.ref x :: st) :=
  fun H locs ls hP hD hS hl => lv_astore_n Z.1 Z.2.1 d rfl hl hn hL (fun ls' hl' => K H locs ls' hP hD hS hl')
theorem jc_iload_n (Z : kF p c cc nL s m args Ts own g0 ac A) {z : Fin 4} {x : Int32} (d : decode cc pc = .ok (.iload_n z, 1)) (j : Nat) (hj : L[j]? = some ((z : Nat), .int x)) (K : JC p l e R s m args below meth c Q g0 A nL W0 k n (pc + 1) L (.int x :: st)) : JC p l e R s m args below meth c Q g0 A nL W0 k n pc L st :=
  fun H locs ls hP hD hS hl => lv_iload_n Z.1 Z.2.1 d rfl (lv_at hl j hj) (K H locs ls hP hD hS hl)
theorem jc_istore_n (Z : kF p c cc nL s m args Ts own g0 ac A) {z : Fin 4} {x : Int32} (d : decode cc pc = .ok (.istore_n z, 1)) (hn : (z : Nat) < nL) (L' : List (Nat × Value)) (hL : ((z : Nat), Value.int x) :: L.filter (fun q => !(q.1 == (z : Nat)) && !(q.1 + 1 == (z : Nat) && q.2.category == 2)) = L') (K : JC p l e R s m args below meth c Q g0 A nL W0 k n (pc + 1) L' st) : JC p l e R s m args below meth c Q g0 A nL W0 k n pc L (.int x :: st) :=
  fun H locs ls hP hD hS hl => lv_istore_n Z.1 Z.2.1 d rfl hl hn hL (fun ls' hl' => K H locs ls' hP hD hS hl')
theorem jc_iinc (Z : kF p c cc nL s m args Ts own g0 ac A) {i : Nat} {z : Int} {x v : Int32} (d : decode cc pc = .ok (.iinc i z, 3)) (j : Nat) (hj : L[j]? = some (i, .int x)) (hv : x + Int32.ofInt z = v) (hn : i < nL) (L' : List (Nat × Value)) (hL : (i, Value.int v) :: L.filter (fun q => !(q.1 == i) && !(q.1 + 1 == i && q.2.category == 2)) = L') (K : JC p l e R s m args below meth c Q g0 A nL W0 k n (pc + 3) L' st) : JC p l e R s m args below meth c Q g0 A nL W0 k n pc L st :=
  fun H locs ls hP hD hS hl => lv_iinc Z.1 Z.2.1 d hl hj hv hn hL (fun ls' hl' => K H locs ls' hP hD hS hl')
theorem jc_goto (Z : kF p c cc nL s m args Ts own g0 ac A) {off : Int} (tgt : Nat) (d : decode cc pc = .ok (.goto off, 3)) (ht : (pc : Int) + off = (tgt : Int)) (K : JC p l e R s m args below meth c Q g0 A nL W0 k n tgt L st) : JC p l e R s m args below meth c Q g0 A nL W0 k n pc L st :=
  fun H locs ls hP hD hS hl => lv_goto Z.1 Z.2.1 d ht (K H locs ls hP hD hS hl)
theorem jc_geT (Z : kF p c cc nL s m args Ts own g0 ac A) {x y : Int32} {off : Int} (tgt : Nat) (d : decode cc pc = .ok (.if_icmp .ge off, 3)) (ht : (pc : Int) + off = (tgt : Int)) (h : y ≤ x) (K : JC p l e R s m args below meth c Q g0 A nL W0 k n tgt L st) : JC p l e R s m args below meth c Q g0 A nL W0 k n pc L (.int y :: .int x :: st) :=
  fun H locs ls hP hD hS hl => lv_icmp_ge Z.1 Z.2.1 d ht (fun _ => K H locs ls hP hD hS hl) (fun q => absurd h q)
theorem jc_geF (Z : kF p c cc nL s m args Ts own g0 ac A) {x y : Int32} {off : Int} (tgt : Nat) (d : decode cc pc = .ok (.if_icmp .ge off, 3)) (ht : (pc : Int) + off = (tgt : Int)) (h : ¬ y ≤ x) (K : JC p l e R s m args below meth c Q g0 A nL W0 k n (pc + 3) L st) : JC p l e R s m args below meth c Q g0 A nL W0 k n pc L (.int y :: .int x :: st) :=
  fun H locs ls hP hD hS hl => lv_icmp_ge Z.1 Z.2.1 d ht (fun q => absurd q h) (fun _ => K H locs ls hP hD hS hl)
theorem jc_oinit (Z : kF p c cc nL s m args Ts own g0 ac A) {index a : Nat} (h1 : Cond.methodLink own index objectInit ∈ Ts) (h2 : Cond.instanceMethod objectInit ∈ Ts) (h3 : Cond.code objectInit ⟨#[0xb1]⟩ 1 none ∈ Ts) (hR : 1 ≤ R.frames ∧ (st.map fun v => v.category).sum + 12 ≤ R.locals) (d : decode cc pc = .ok (.invokespecial index, 3)) (K : JC p l e R s m args below meth c Q g0 A nL W0 k n (pc + 3) L st) : JC p l e R s m args below meth c Q g0 A nL W0 k n pc L (.ref a :: st) :=
  fun H locs ls hP hD hS hl => W.objInit Z.1 Z.2.1 Z.2.2.2.1 (Z.2.2.2.2.1 _ h1) (Z.2.2.2.2.1 _ h2) (Z.2.2.2.2.1 _ h3) rfl (hl.1.trans Z.2.2.1.symm) rfl d hR.1 (by show 2 * 0 + _ + 12 ≤ _; have := hR.2; omega) (W.eq (g2 := F0 m (pc + 3) ls st) rfl (K H locs ls hP hD hS hl))
theorem jc_get (Z : kF p c cc nL s m args Ts own g0 ac A) {a ci index : Nat} {fs : List Value} (q0 : Nat) (he : W0[q0]? = some (a, .inr (ci, fs))) {C : String} {T : u_T} {N : Nat} (hc : vwCl[ci]? = some (C, T, N)) (j : Nat) (hj : j < N) {v : Value} (hv : fs[j]? = some v) (hin : ∀ w ∈ u_ws C T N, w ∈ Ts) (hlk : Cond.fieldLink own index (T j).1 (T j).2.1 (T j).2.2.1 ∈ Ts) (d : decode cc pc = .ok (.getfield index, 3)) (K : JC p l e R s m args below meth c Q g0 A nL W0 k n (pc + 3) L (v :: st)) : JC p l e R s m args below meth c Q g0 A nL W0 k n pc L (.ref a :: st) :=
  fun H locs ls hP hD hS hl => va_get Z.1 Z.2.1 Z.2.2.2.2.1 hin Z.2.2.2.1 Z.2.2.2.2.2.1.1 hP q0 he hc j hj (Z.2.2.2.2.1 _ hlk) (fun _ h => h) hv d (K H locs ls hP hD hS hl)
theorem jc_put (Z : kF p c cc nL s m args Ts own g0 ac A) {a ci index : Nat} {fs : List Value} (q0 : Nat) (he : W0[q0]? = some (a, .inr (ci, fs))) {C : String} {T : u_T} {N : Nat} (hc : vwCl[ci]? = some (C, T, N)) (ty0 : Nat → FieldType) (hty : ∀ k, k < N → parseFieldDescriptor (T k).2.2.1 = some (ty0 k)) (hnm : ∀ a, a < N → ∀ b, b < N → a ≠ b → (T a).2.1 ≠ (T b).2.1) (j : Nat) (hj : j < N) {v : Value} (hfin : (T j).2.2.2 = false) (hn : narrow (ty0 j) v = v) (hfit : fits (ty0 j) v = true) (hln : j < fs.length) (hin : ∀ w ∈ u_ws C T N, w ∈ Ts) (hlk : Cond.fieldLink own index (T j).1 (T j).2.1 (T j).2.2.1 ∈ Ts) (d : decode cc pc = .ok (.putfield index, 3)) (K : JC p l e R s m args below meth c Q g0 A nL (W0.set q0 (a, .inr (ci, fs.set j v))) k n (pc + 3) L st) : JC p l e R s m args below meth c Q g0 A nL W0 k n pc L (v :: .ref a :: st) :=
  fun H locs ls hP hD hS hl => va_put Z.1 Z.2.1 Z.2.2.2.2.1 hin ty0 hty hnm Z.2.2.2.1 Z.2.2.2.2.2.1.1 hP hD hS q0 he hc j hj (Z.2.2.2.2.1 _ hlk) (fun _ h => h) hfin (hty j hj) hn hfit hln d (fun H1 locs1 hP1 hD1 hS1 => K H1 locs1 ls hP1 hD1 hS1 hl)
theorem jc_putF (Z : kF p c cc nL s m args Ts own g0 ac A) (hm : meth.name = "<init>") {a ci index : Nat} {fs : List Value} (q0 : Nat) (he : W0[q0]? = some (a, .inr (ci, fs))) {C : String} {T : u_T} {N : Nat} (hc : vwCl[ci]? = some (C, T, N)) (ty0 : Nat → FieldType) (hty : ∀ k, k < N → parseFieldDescriptor (T k).2.2.1 = some (ty0 k)) (hnm : ∀ a, a < N → ∀ b, b < N → a ≠ b → (T a).2.1 ≠ (T b).2.1) (j : Nat) (hj : j < N) {v : Value} (hfin : (T j).2.2.2 = true) (ho : (T j).1 = own) (hn : narrow (ty0 j) v = v) (hfit : fits (ty0 j) v = true) (hln : j < fs.length) (hin : ∀ w ∈ u_ws C T N, w ∈ Ts) (hlk : Cond.fieldLink own index (T j).1 (T j).2.1 (T j).2.2.1 ∈ Ts) (d : decode cc pc = .ok (.putfield index, 3)) (K : JC p l e R s m args below meth c Q g0 A nL (W0.set q0 (a, .inr (ci, fs.set j v))) k n (pc + 3) L st) : JC p l e R s m args below meth c Q g0 A nL W0 k n pc L (v :: .ref a :: st) :=
  fun H locs ls hP hD hS hl => va_putF Z.1 Z.2.1 Z.2.2.2.2.1 hin ty0 hty hnm Z.2.2.2.1 Z.2.2.2.2.2.1.1 hP hD hS q0 he hc j hj (Z.2.2.2.2.1 _ hlk) (fun _ h => h) hfin hm ho (hty j hj) hn hfit hln d (fun H1 locs1 hP1 hD1 hS1 => K H1 locs1 ls hP1 hD1 hS1 hl)
theorem jc_new (Z : kF p c cc nL s m args Ts own g0 ac A) {C : String} {T : u_T} {N ci index : Nat} (ty : Nat → FieldType) (hty : ∀ k, k < N → parseFieldDescriptor (T k).2.2.1 = some (ty k)) (hin : ∀ w ∈ u_ws C T N, w ∈ Ts) (hcl : Cond.classLink own index C ∈ Ts) (hinst : Cond.instantiable C N ∈ Ts) (hini : Cond.initialized C ∈ Ts) (hc : vwCl[ci]? = some (C, T, N)) (fs : List Value) (hfs : ∀ j, j < N → defaultValue (ty j) = vp_V fs j) (hR : k + 1 ≤ R.cells ∧ n + N ≤ R.slots) (d : decode cc pc = .ok (.new index, 3)) (K : ∀ q : Nat, A q → JC p l e R s m args below meth c Q g0 A nL (W0 ++ [(q, .inr (ci, fs))]) (k + 1) (n + N) (pc + 3) L (.ref q :: st)) : JC p l e R s m args below meth c Q g0 A nL W0 k n pc L st :=
  fun H locs ls hP hD hS hl => va_new Z.1 Z.2.1 Z.2.2.2.2.1 hin ty hty Z.2.2.2.1 (Z.2.2.2.2.1 _ hcl) (Z.2.2.2.2.1 _ hinst) (Z.2.2.2.2.1 _ hini) Z.2.2.2.2.2.1.1 hP hD hS Z.2.2.2.2.2.2 hc hfs hR.1 hR.2 d (fun q H1 hP1 hD1 hS1 => K q (hD1.2 W0.length (q, .inr (ci, fs)) (by simp)) H1 locs ls hP1 hD1 hS1 hl)
theorem jc_newa (Z : kF p c cc nL s m args Ts own g0 ac A) {atype : ArrayType} {ty : FieldType} (harr : Cond.arrayClass ty ∈ Ts) (hty : newarray.typeOf atype = ty) (t0 : Nat) {cA : ClassId} (hac : (kT ac)[t0]? = some (cA, ty)) {x : Int32} {N' : Nat} (a0 : vp_A) (ha : ∀ cA : ClassId, vp_cell cA a0 = arrV cA N' (fun _ => defaultValue ty)) (hx : ¬ x < 0) (hN : x.toNatClampNeg = N') (hby : N' * componentBytes ty ≤ 536870912) (hR : k + 1 ≤ R.cells ∧ n + N' ≤ R.slots) (d : decode cc pc = .ok (.newarray atype, 2)) (K : ∀ q : Nat, JC p l e R s m args below meth c Q g0 A nL (W0 ++ [(q, .inl (cA, a0))]) (k + 1) (n + N') (pc + 2) L (.ref q :: st)) : JC p l e R s m args below meth c Q g0 A nL W0 k n pc L (.int x :: st) := by
  intro H locs ls hP hD hS hl
  subst hty
  refine va_newa Z.1 Z.2.1 (Z.2.2.2.2.1 _ harr) rfl Z.2.2.2.2.2.1.1 hP hD hS Z.2.2.2.2.2.2 ha hx hN hby hR.1 hR.2 d (fun q cB H1 hK1 hP1 hD1 hS1 => ?_)
  have e1 : cB = cA := va_RA_inj (hK1.2 5 _ rfl).2 (Z.2.2.2.2.2.1.1.2 t0 _ hac).2
  subst e1
  exact K q H1 locs ls hP1 hD1 hS1 hl
theorem jc_mna (Z : kF p c cc nL s m args Ts own g0 ac A) {index : Nat} (hcl : Cond.classLink own index "[[I" ∈ Ts) (harr : Cond.arrayClass .int ∈ Ts) {x y : Int32} {N' K' : Nat} (hx : ¬ x < 0) (hy : ¬ y < 0) (hN : x.toNatClampNeg = N') (hM : y.toNatClampNeg = K') (hb1 : N' ≤ 4096) (hb2 : K' ≤ 4096) (hz : ∀ c : ClassId, Jvm.Free.Multi.innerC c K' (.int 0) = vp_cell c (K', .inl (fun _ => 0))) (hR : k + (1 + N') ≤ R.cells ∧ n + (N' + N' * K') ≤ R.slots) (d : decode cc pc = .ok (.multianewarray index 2, 4)) (K : ∀ (q : Nat) (r : Nat → Nat), JC p l e R s m args below meth c Q g0 A nL (W0 ++ [(q, .inl (ac 4, N', .inr (.inr (.inr (.inr (fun i => some (r i)))))))] ++ (List.range N').map (fun i => (r i, .inl (ac 0, K', .inl (fun _ => 0))))) (k + (1 + N')) (n + (N' + N' * K')) (pc + 4) L (.ref q :: st)) : JC p l e R s m args below meth c Q g0 A nL W0 k n pc L (.int y :: .int x :: st) := by
  intro H locs ls hP hD hS hl
  have hcy : s.vm.findClass (FieldType.array .int).toString = some (ac 0) := va_nm_int (Z.2.2.2.2.2.1.1.2 0 _ rfl).2
  refine va_mna (X := W0) (L := []) (f := fun _ => .inr (0, [])) (z := (K', .inl (fun _ => 0))) (ty := .int) Z.1 Z.2.1 Z.2.2.2.1 (Z.2.2.2.2.1 _ hcl) Z.2.2.2.2.2.1.2.1 (Z.2.2.2.2.1 _ harr) hcy Z.2.2.2.2.2.1.1 (by rw [show W0 ++ va_pl [] _ = W0 from List.append_nil W0]; exact hP) (by rw [show W0 ++ va_pl [] _ = W0 from List.append_nil W0]; exact hD) hS Z.2.2.2.2.2.2 hx hy hN hM (by omega) (by show K' * 4 ≤ _; omega) (by omega) rfl rfl hR.1 hR.2 hz d (fun q r cB H1 hr _ hK1 hP1 hD1 hS1 => ?_)
  have e1 : cB = ac 4 := va_RA_inj (hK1.2 5 _ rfl).2 (Z.2.2.2.2.2.1.1.2 4 _ rfl).2
  subst e1
  have e2 : va_pl ([] ++ (List.range N').map r) (vr_up (fun _ => .inr (0, [])) ((List.range N').map r) (.inl (ac 0, K', .inl (fun _ => 0)))) = (List.range N').map (fun i => (r i, .inl (ac 0, K', .inl (fun _ => 0)))) := by
    unfold va_pl
    rw [List.nil_append, List.map_map]
    apply List.map_congr_left
    intro i hi
    show (r i, vr_up _ _ _ (r i)) = _
    rw [vr_up_in (List.mem_map.mpr ⟨i, hi, rfl⟩)]
  rw [e2] at hP1 hD1
  have hP2 : va_P g0 vwCl (W0 ++ [(q, .inl (ac 4, N', .inr (.inr (.inr (.inr (fun i => some (r i)))))))] ++ (List.range N').map (fun i => (r i, .inl (ac 0, K', .inl (fun _ => 0))))) H1 := by
    refine va_P_cong (by simp) (fun k x y hx hy h => ?_) hP1
    rcases Nat.lt_trichotomy k W0.length with h1 | h1 | h1
    · rw [List.append_assoc, List.getElem?_append_left h1] at hx hy
      rw [hx] at hy
      cases hy
      exact h
    · subst h1
      simp at hx hy
      subst hx
      subst hy
      refine Eq.trans h (congrArg some ?_)
      show vp_cell _ _ = vp_cell _ _
      rw [vp_cell_q, vp_cell_q]
      exact arrV_cong (fun j hj => by rw [if_pos hj])
    · rw [List.getElem?_append_right (by simp; omega)] at hx hy
      simp only [List.length_append, List.length_cons, List.length_nil] at hx hy
      rw [hx] at hy
      cases hy
      exact h
  have hD2 : va_D A (W0 ++ [(q, .inl (ac 4, N', .inr (.inr (.inr (.inr (fun i => some (r i)))))))] ++ (List.range N').map (fun i => (r i, .inl (ac 0, K', .inl (fun _ => 0))))) := va_D_cong (by simp) hD1
  have h3 := K q r H1 locs ls hP2 hD2 hS1 hl
  rw [← Nat.add_assoc, ← Nat.add_assoc] at h3
  exact h3
theorem jc_ist (Z : kF p c cc nL s m args Ts own g0 ac A) {a N : Nat} {f : Nat → Int32} (q0 : Nat) (he : W0[q0]? = some (a, .inl (ac 0, N, .inl f))) {x v : Int32} (i : Nat) (hx : x = nI i) (hi : i < N) (hN : N ≤ 4096) (d : decode cc pc = .ok (.iastore, 1)) (K : JC p l e R s m args below meth c Q g0 A nL (W0.set q0 (a, .inl (ac 0, N, .inl (upd f i v)))) k n (pc + 1) L st) : JC p l e R s m args below meth c Q g0 A nL W0 k n pc L (.int v :: .int x :: .ref a :: st) := by
  subst hx
  intro H locs ls hP hD hS hl
  refine va_iast (f := f) Z.1 Z.2.1 Z.2.2.2.2.2.1.1 hP hD hS q0 0 he rfl (nI_vp hi hN) d (fun H1 locs1 hP1 hD1 hS1 => ?_)
  rw [nI_cl hi hN] at hP1 hD1
  exact K H1 locs1 ls hP1 hD1 hS1 hl
/-- a constructor is called: the object is the world's last -/
theorem va_split {A : Nat → Prop} {W1 wc w1 : va_W} {H H1 : Heap} (hP : va_P g0 vwCl (W1 ++ wc) H) (hD : va_D A (W1 ++ wc)) (hk : ∀ q : Nat, q < H.size → ¬ va_A wc H.size q → H1[q]? = H[q]?) (hF : ∀ q, va_A wc H.size q → A q) (hP1 : va_P g0 vwCl w1 H1) (hD1 : va_D (va_A wc H.size) w1) : va_P g0 vwCl (W1 ++ w1) H1 ∧ va_D A (W1 ++ w1) := by
  have hin : ∀ (k : Nat) (q : Nat × va_E), W1[k]? = some q → (W1 ++ wc)[k]? = some q := fun k q h => by
    rw [List.getElem?_append_left (List.getElem?_eq_some_iff.mp h).1]; exact h
  have apart : ∀ (k : Nat) (q : Nat × va_E), W1[k]? = some q → q.1 < H.size ∧ ¬ va_A wc H.size q.1 := by
    intro k q h
    have hl := (hP k q (hin k q h)).lt
    refine ⟨hl, fun z => ?_⟩
    rcases z with ⟨j, e9, hj⟩ | z
    · have h2 : (W1 ++ wc)[W1.length + j]? = some (q.1, e9) := by
        rw [List.getElem?_append_right (Nat.le_add_right _ _), Nat.add_sub_cancel_left]; exact hj
      have h3 := hD.1 _ _ _ _ (hin k q h) h2 rfl
      have h4 := (List.getElem?_eq_some_iff.mp h).1
      omega
    · omega
  refine ⟨fun k q h => ?_, fun i j x y hi hj hxy => ?_, fun k q h => ?_⟩
  · by_cases h1 : k < W1.length
    · rw [List.getElem?_append_left h1] at h
      exact (hP k q (hin k q h)).kept (hk _ (apart k q h).1 (apart k q h).2)
    · rw [List.getElem?_append_right (by omega)] at h
      exact hP1 _ q h
  · by_cases h1 : i < W1.length <;> by_cases h2 : j < W1.length
    · rw [List.getElem?_append_left h1] at hi
      rw [List.getElem?_append_left h2] at hj
      exact hD.1 i j x y (hin i x hi) (hin j y hj) hxy
    · rw [List.getElem?_append_left h1] at hi
      rw [List.getElem?_append_right (by omega)] at hj
      exact absurd (hxy ▸ hD1.2 _ y hj) (apart i x hi).2
    · rw [List.getElem?_append_right (by omega)] at hi
      rw [List.getElem?_append_left h2] at hj
      exact absurd (hxy ▸ hD1.2 _ x hi) (apart j y hj).2
    · rw [List.getElem?_append_right (by omega)] at hi hj
      have := hD1.1 _ _ _ _ hi hj hxy
      omega
  · by_cases h1 : k < W1.length
    · rw [List.getElem?_append_left h1] at h
      exact hD.2 k q (hin k q h)
    · rw [List.getElem?_append_right (by omega)] at h
      exact hF _ (hD1.2 _ q h)
def kPre (g0 : va_G) (ac : Nat → ClassId) (h0 : Nat) (e0 : va_E) (As : List Value) (sz : Nat) : Array Value → State → Prop := va_Pc (.ref h0 :: As) (fun U => U.heap.size = sz ∧ va_P g0 vwCl [(h0, e0)] U.heap ∧ kX g0 ac U)
def kPost {S : Type} (g0 : va_G) (h0 : Nat) (e0 : va_E) (sz : Nat) (w1 : S → va_W) : Array Value → State → Outcome → State → Prop := va_Qv (fun _ : S => True) (fun u t => va_P g0 vwCl (w1 u) t.heap ∧ va_D (va_A [(h0, e0)] sz) (w1 u)) (va_A [(h0, e0)] sz)
theorem k_blind {h0 sz : Nat} {e0 : va_E} {As : List Value} : FrameBlind (kPre g0 ac h0 e0 As sz) := fun a U f mk q => ⟨q.1, q.2.1, q.2.2.1, kX_same (u := U) (U := U.calling f mk a) rfl q.2.2.2⟩
theorem k_free {A : Nat → Prop} {W1 : va_W} {H H0 : Heap} {h0 : Nat} {e0 : va_E} {locs : List Loc} (hD : va_D A (W1 ++ [(h0, e0)])) (hS : va_S A H0 H locs) (hA : ∀ q, H0.size ≤ q → A q) : ∀ q, va_A [(h0, e0)] H.size q → A q := by
  intro q h
  rcases h with ⟨k, e9, h⟩ | h
  · have hz : k < 1 := (List.getElem?_eq_some_iff.mp h).1
    rw [show k = 0 by omega] at h
    cases h
    exact hD.2 W1.length (h0, e0) (by simp)
  · exact hA q (Nat.le_trans hS.1 h)
theorem jc_call (Z : kF p c cc nL s m args Ts own g0 ac A) {y : MethodName} {ws1 ws' : List Cond} {rm : Room} {As rest : List Value} {mc ms nA maxL index q : Nat} {bytes : ByteArray} {e0 : va_E} {W1 : va_W} {S : Type} {w1 : S → va_W} (hM : ∀ sz : Nat, Met l y ws1 rm (kPre g0 ac q e0 As sz) (kPost g0 q e0 sz w1) mc ms (va_A [(q, e0)] sz)) (hW0 : W0 = W1 ++ [(q, e0)]) (hT : GoodIn Ts ws1) (hw : ws1 = Cond.code y bytes maxL none :: ws') (hrc : rm.cells = mc) (hrs : rm.slots = ms) (hini : Cond.initialized y.cls ∈ Ts) (hlk : Cond.methodLink own index y ∈ Ts ∨ (own = RX5 ∧ (index, y) ∈ kNw)) (hin : Cond.instanceMethod y ∈ Ts) (hyn : y.name = "<init>") (hd : y.cls ≠ "java/lang/invoke/MethodHandle" ∧ y.cls ≠ "java/lang/invoke/VarHandle" ∧ (parseMethodDescriptor y.desc).map (fun d => d.parameters.length) = some nA) (hR : rm.frames + 1 ≤ R.frames ∧ 8 + (maxL + 11) + rm.locals ≤ R.locals) (hn : As.length = nA) (d : decode cc pc = .ok (.invokespecial index, 3)) {stk : List Value} (hst : stk = As.reverse ++ .ref q :: rest) (hcat : (rest.map fun v => v.category).sum ≤ 8) (hroom : k + mc ≤ R.cells ∧ n + ms ≤ R.slots) (K : ∀ u : S, JC p l e R s m args below meth c Q g0 A nL (W1 ++ w1 u) (k + mc) (n + ms) (pc + 3) L rest) : JC p l e R s m args below meth c Q g0 A nL W0 k n pc L stk := by
  subst hst
  subst hW0
  intro H locs ls hP hD hS hl
  have hF := k_free hD hS Z.2.2.2.2.2.2
  have hPc : va_P g0 vwCl [(q, e0)] H := fun j x hx => by
    have hz : j < 1 := (List.getElem?_eq_some_iff.mp hx).1
    rw [show j = 0 by omega] at hx
    exact hP (W1.length + 0) x (by rw [List.getElem?_append_right (by omega)]; simpa using hx)
  have hpre : PreS s H (kPre g0 ac q e0 As H.size) (.ref q :: As) := ⟨k_blind, fun U hU hW => ⟨rfl, by rw [hU], by rw [hU]; exact hPc, kX_call hW Z.2.2.2.2.2.1⟩⟩
  have hkk : ∀ (u : S) (t : State) (H1 : Heap) (locs1 : List Loc), t.heap = H1 → s.vm.Alike t.vm → True → (va_P g0 vwCl (w1 u) t.heap ∧ va_D (va_A [(q, e0)] H.size) (w1 u)) → H.size ≤ H1.size → (∀ q9 : Nat, q9 < H.size → ¬ va_A [(q, e0)] H.size q9 → H1[q9]? = H[q9]?) → va_S A s.heap H1 locs1 → W p l e R s m args below meth c H1 locs1 (k + mc) (n + ms) Q (F0 m (pc + 3) ls rest) := by
    intro u t H1 locs1 ht _ _ hB _ hk1 hS1
    rw [ht] at hB
    obtain ⟨hP2, hD2⟩ := va_split hP hD hk1 hF hB.1 hB.2
    exact K u H1 locs1 ls hP2 hD2 hS1 hl
  rcases hlk with hlk | ⟨rfl, hlk⟩
  · exact va_callv (va_runI ⟨Z.1, Z.2.1, Z.2.2.1, Z.2.2.2.1, Z.2.2.2.2.1⟩ (hM H.size) (cwI nA Z.2.2.2.2.1 hT hw hrc hrs (Z.2.2.2.2.1 _ hini) (Z.2.2.2.2.1 _ hlk) (Z.2.2.2.2.1 _ hin) hyn hd hR) hpre rfl hn hl.1 rfl (lv_room hcat) d hroom) hS (fun q9 _ h => hF q9 h) hF hkk
  · exact va_callv (va_runIN ⟨Z.1, Z.2.1, Z.2.2.1, Z.2.2.2.1, Z.2.2.2.2.1⟩ (hM H.size) ⟨va_cnB nA Z.2.2.2.2.1 hT hw hrc hrs (Z.2.2.2.2.2.1.2.2 _ hlk) (Z.2.2.2.2.1 _ hini) hd hR, hyn, Z.2.2.2.2.1 _ hin⟩ hpre rfl hn hl.1 rfl (lv_room hcat) d hroom) hS (fun q9 _ h => hF q9 h) hF hkk
end KJ
theorem k_of {l : Launch} {y : MethodName} {ws ws' : List Cond} {rm : Room} {As : List Value} {g0 : va_G} {ac : Nat → ClassId} {h0 sz mc ms nL : Nat} {e0 : va_E} {cc : ByteArray} {S : Type} {w1 : S → va_W} (hy : plainName y.cls = true) (hyn : y.name = "<init>") (hw : ws = .code y cc nL none :: ws') (hlen : (lg_sl (.ref h0 :: As)).length ≤ nL)
    (body : ∀ p e s m args below meth c Q, kF p c cc nL s m args ws y.cls g0 ac (va_A [(h0, e0)] sz) → meth.name = "<init>" → (∀ (W1 : va_W) (u : S) (k n pc : Nat) (L : List (Nat × Value)), W1 = w1 u → k ≤ mc → n ≤ ms → decode cc pc = .ok (.return_, 1) → JC p l e rm s m args below meth c Q g0 (va_A [(h0, e0)] sz) nL W1 k n pc L []) → JC p l e rm s m args below meth c Q g0 (va_A [(h0, e0)] sz) nL [(h0, e0)] 0 0 0 (lv_args 0 (.ref h0 :: As)) []) : Met l y ws rm (kPre g0 ac h0 e0 As sz) (kPost g0 h0 e0 sz w1) mc ms (va_A [(h0, e0)] sz) := by
  refine Met.ofW (cc := cc) (maxL := nL) (ret := none) hy hw ?_
  intro p e s m args below meth c s₁ B hml hv
  obtain ⟨rfl, hsz, hP, hX⟩ := hv
  have hts := atoms_spec (ws := ws) B.pre
  have hown : s.vm.findClass y.cls = some m.cls := findClass_of_methodNamed B.named
  have hr := B.returns
  have hin : meth.name = "<init>" := ((name_of_methodNamed B.named B.method).1).trans hyn
  subst hsz
  have Z : kF p c cc nL s m (Value.ref h0 :: As).toArray ws y.cls g0 ac (va_A [(h0, e0)] s.heap.size) := ⟨B.exec, B.bytes, hml, hown, hts, hX, fun q h => Or.inr h⟩
  have hD : va_D (va_A [(h0, e0)] s.heap.size) [(h0, e0)] := ⟨fun i j x y hi hj _ => by
    have := (List.getElem?_eq_some_iff.mp hi).1
    have := (List.getElem?_eq_some_iff.mp hj).1
    simp at *
    omega, fun _ _ hk => va_A.in hk⟩
  rw [lg_entry_eq]
  refine body p e s m _ below meth c _ Z hin ?_ s.heap [] _ hP hD va_S.rf (lv_entry _ hlen)
  intro W1 u k n pc L hW h1 h2 d H locs ls hP1 hD1 hS1 hl1
  subst hW
  refine W.widen h1 h2 ?_
  exact W.vret Z.1 Z.2.1 hr (fun t ht hW => ⟨⟨u, rfl, trivial, by rw [ht]; exact hP1, hD1⟩, hS1.F ht⟩) hS1.2.2 d B.notSynchronized
