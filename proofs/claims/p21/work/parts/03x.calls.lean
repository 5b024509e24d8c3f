/-- a contract's end: the memory behind it -/
def gPB (g : gC) : gM → State → Prop := fun μ' t => gI g μ' t.heap
/-- .. where it throws -/
def gPX (g : gC) (bx : String → gM → Prop) : String → State → State → Prop := vx_X (fun _ : gM => True) (fun E u t => bx E u ∧ gI g u t.heap) (gA g)
theorem gX_same {g : gC} {u U : State} (h1 : U.vm = u.vm) (h2 : U.heap = u.heap) (h : gX g u) : gX g U := by
  obtain ⟨hK, hD, hU, hN, hs, hw⟩ := h
  have ha : u.vm.Alike U.vm := by rw [h1]; exact Vm.Alike.refl u.vm
  refine ⟨va_K.moved ha hK, hD, ?_, ?_, fun q hq => ?_, fun w hm => ?_⟩
  · rw [h2]; exact hU.moved ha
  · rw [h2]; exact hN.moved ha
  · obtain ⟨a, ha⟩ := hs q hq
    exact ⟨a, vk_R.same h1 ha⟩
  · have h9 := hw w hm
    simp only [gXw, List.mem_cons, List.not_mem_nil, or_false] at hm
    rcases hm with rfl | rfl | rfl | rfl | rfl | rfl | rfl <;> exact va_Nw.same rfl h1.symm h9
theorem gX_call {g : gC} {s U : State} {H : Heap} {locs : List Loc} (h : gX g s) (hS : va_S (gA g) s.heap H locs) (hU : U.heap = H) (hW : s.WarmedH U.vm) : gX g U := by
  obtain ⟨hK, hD, hZ, hN, hs, hw⟩ := h
  refine ⟨va_K.moved hW.alike hK, hD, ?_, ?_, fun q hq => ?_, fun w hm => ?_⟩
  · rw [hU]; exact (hZ.moved hW.alike).kept (fun a h1 h2 => hS.2.1 a h1 h2)
  · rw [hU]; exact (hN.moved hW.alike).kept (fun a h1 h2 => hS.2.1 a h1 h2)
  · obtain ⟨a, ha⟩ := hs q hq
    exact ⟨a, vk_R.warm hW ha⟩
  · have h9 := hw w hm
    simp only [gXw, List.mem_cons, List.not_mem_nil, or_false] at hm
    rcases hm with rfl | rfl | rfl | rfl | rfl | rfl | rfl
    · exact va_Nw.warmC hW h9
    · exact va_Nw.warmC hW h9
    · exact va_Nw.warmC hW h9
    · exact va_Nw.warmC hW h9
    · exact va_Nw.warmD hW h9
    · exact va_Nw.warmD hW h9
    · exact va_Nw.warmD hW h9
theorem gB_blind {As : List Value} {g : gC} {μ : gM} : FrameBlind (va_Pc As (gB g μ)) := fun a U f mk q => ⟨q.1, q.2.1, gX_same (u := U) (U := U.calling f mk a) rfl rfl q.2.2⟩

abbrev gNm : List String := ["java/lang/RuntimeException", "java/lang/Exception"]
/-- of an exception's class: what a throw needs of its words -/
def gOk (cls : String) (ik ic : Nat) (wl : List Cond) : Prop := ((Bundle.fit cls = true ∧ wl = vx_atS RX5 ic cls gNm) ∨ (cls = gNs ∧ wl = gNsAt RX5 ic)) ∧ (∀ w ∈ wl.filter (fun w => !goodWord w), w ∈ gXw) ∧ ∀ w ∈ Cond.classLink RX5 ik cls :: Cond.initialized cls :: wl, vx_ot w = true
/-- 'throw new E("text")' at pc -/
def gTh (p : Program) (l : Launch) (e : Env) (R : Room) (s : State) (m : MethodId) (args : Array Value) (below : List Frame) (meth : Method) (c : Code) (Q : State → Prop) (g : gC) (nL : Nat) (cc : ByteArray) (Ts : List Cond) (mc ms : Nat) (bx : String → gM → Prop) : Prop :=
  ∀ (cls text : String) (ik is ic : Nat) (wl : List Cond) (μ' : gM) (k n pc : Nat) (L : List (Nat × Value)) (st : List Value), gOk cls ik ic wl → (Cond.classLink RX5 ik cls ∈ Ts ∧ Cond.initialized cls ∈ Ts ∧ ∀ w ∈ wl.filter goodWord, w ∈ Ts) → (is, text) ∈ gSt →
    decode cc pc = .ok (.new ik, 3) → decode cc (pc + 3) = .ok (.dup, 1) → decode cc (pc + 4) = .ok (.ldc is, 2) → decode cc (pc + 6) = .ok (.invokespecial ic, 3) → decode cc (pc + 9) = .ok (.athrow, 1) →
    bx cls μ' → k + 1 ≤ mc → n + 6 ≤ ms → k + 1 ≤ R.cells ∧ n + 6 ≤ R.slots ∧ 5 < R.frames ∧ (st.map fun v => v.category).sum + 82 ≤ R.locals → J p l e R s m args below meth c Q g nL μ' k n pc L st
theorem gI_new {g : gC} {μ : gM} {H H1 : Heap} (h : gI g μ H) (hq : ∀ q : Nat, q < H.size → H1[q]? = H[q]?) : gI g μ H1 := h.kept (fun k q hk => hq q.1 ((h k q hk).lt))
theorem j_throw {p : Program} {l : Launch} {e : Env} {R : Room} {s : State} {m : MethodId} {args : Array Value} {below : List Frame} {meth : Method} {c : Code} {g : gC} {nL : Nat} {cc : ByteArray} {Ts : List Cond} {mc ms : Nat} {Qc : Array Value → State → Outcome → State → Prop} {bx : String → gM → Prop} (Z : gF p l e R s m args below meth c cc nL Ts RX5 g) (hl : l.stackTraces = false) (hno : ∀ x ∈ c.exceptionTable.toList, False) : gTh p l e R s m args below meth c (vx_MQ below Qc (gPX g bx) args s mc ms (gA g)) g nL cc Ts mc ms bx := by
  intro cls text ik is ic wl μ' k n pc L st ok hw hst d0 d3 d4 d6 d9 hb h1 h2 hR H locs ls hI hS hls
  obtain ⟨sa, hsa⟩ := Z.2.2.2.2.2.1.2.2.2.2.1 _ hst
  have hbad : ∀ w ∈ gXw, w.before args s = true := fun w hm => by
    have h9 := Z.2.2.2.2.2.1.2.2.2.2.2 w hm
    simp only [gXw, List.mem_cons, List.not_mem_nil, or_false] at hm
    rcases hm with rfl | rfl | rfl | rfl | rfl | rfl | rfl <;> exact va_Nw.use rfl h9
  have hx : ∀ t : State, s.vm.Alike t.vm → H.size ≤ t.heap.size → (∀ q : Nat, q < H.size → t.heap[q]? = H[q]?) → gPX g bx cls s t := fun t ht hz hq => ⟨μ', trivial, ⟨hb, gI_new hI hq⟩, ⟨Nat.le_trans hS.1 hz, fun q a1 a2 => (hq q (Nat.lt_of_lt_of_le a1 hS.1)).trans (hS.2.1 q a1 a2)⟩⟩
  have hat := vx_hat (fun w h => Z.2.2.2.2.1 w (hw.2.2 w h)) ok.2.1 hbad
  rcases ok.1 with ⟨hfit, hwl⟩ | ⟨hcl, hwl⟩
  · subst hwl
    exact vx_throwS (names := gNm) (A := gA g) Z.1 Z.2.1 hl Z.2.2.2.1 hfit (by decide +kernel) (Z.2.2.2.2.1 _ hw.1) (Z.2.2.2.2.1 _ hw.2.1) hsa hat ok.2.2 Z.2.2.2.2.2.1.2.2.1 Z.2.2.2.2.2.1.2.2.2.1 hS (hls.1.trans Z.2.2.1.symm) d0 d3 d4 d6 d9 (fun x hx => (hno x hx).elim) hR.2.2.1 hR.2.2.2 hR.1 hR.2.1 Z.2.2.2.2.2.2 hx hS.2.2 h1 h2
  · subst hcl
    subst hwl
    exact gn_throw (A := gA g) Z.1 Z.2.1 hl Z.2.2.2.1 (Z.2.2.2.2.1 _ hw.1) (Z.2.2.2.2.1 _ hw.2.1) hsa hat ok.2.2 Z.2.2.2.2.2.1.2.2.1 Z.2.2.2.2.2.1.2.2.2.1 hS (hls.1.trans Z.2.2.1.symm) d0 d3 d4 d6 d9 (fun x hx => (hno x hx).elim) hR.2.2.1 hR.2.2.2 hR.1 hR.2.1 Z.2.2.2.2.2.2 hx hS.2.2 h1 h2
theorem gOk_S : gOk "java/lang/IllegalStateException" 57 61 (vx_atS RX5 61 "java/lang/IllegalStateException" gNm) := ⟨Or.inl ⟨by decide +kernel, rfl⟩, by decide +kernel, by decide +kernel⟩
theorem gOk_A : gOk "java/lang/IllegalArgumentException" 169 173 (vx_atS RX5 173 "java/lang/IllegalArgumentException" gNm) := ⟨Or.inl ⟨by decide +kernel, rfl⟩, by decide +kernel, by decide +kernel⟩
theorem gOk_I : gOk "java/lang/IndexOutOfBoundsException" 157 161 (vx_atS RX5 161 "java/lang/IndexOutOfBoundsException" gNm) := ⟨Or.inl ⟨by decide +kernel, rfl⟩, by decide +kernel, by decide +kernel⟩
theorem gOk_N : gOk gNs 178 182 (gNsAt RX5 182) := ⟨Or.inr ⟨rfl, rfl⟩, by decide +kernel, by decide +kernel⟩
theorem g_ofI {l : Launch} {y : MethodName} {ws ws' : List Cond} {rm : Room} {As : List Value} {g : gC} {μ : gM} {mc ms nL : Nat} {cc : ByteArray} {ret : Option FieldType} {ty : FieldType} {post : Int32 → gM → Prop} (hy : plainName y.cls = true) (hw : ws = .code y cc nL ret :: ws') (hret : ret = some ty) (hn : ∀ v μ', post v μ' → narrow ty (.int v) = .int v) (hlen : (lg_sl As).length ≤ nL)
    (body : ∀ p e s m args below meth c Q, gF p l e rm s m args below meth c cc nL ws y.cls g → (∀ (v : Int32) (μ' : gM) (k n pc : Nat) (L : List (Nat × Value)), post v μ' → k ≤ mc → n ≤ ms → decode cc pc = .ok (.ireturn, 1) → J p l e rm s m args below meth c Q g nL μ' k n pc L [.int v]) → J p l e rm s m args below meth c Q g nL μ 0 0 0 (lv_args 0 As) []) : Met l y ws rm (va_Pc As (gB g μ)) (va_Qi post (gPB g) (gA g)) mc ms (gA g) := by
  refine Met.ofW (cc := cc) (maxL := nL) (ret := ret) hy hw ?_
  intro p e s m args below meth c s₁ B hml hv
  obtain ⟨rfl, hI, hX⟩ := hv
  have hts := atoms_spec (ws := ws) B.pre
  have hown : s.vm.findClass y.cls = some m.cls := findClass_of_methodNamed B.named
  have hr := B.returns
  have Z : gF p l e rm s m As.toArray below meth c cc nL ws y.cls g := ⟨B.exec, B.bytes, hml, hown, hts, hX, B.notSynchronized⟩
  rw [lg_entry_eq]
  refine body p e s m As.toArray below meth c _ Z ?_ s.heap [] _ hI va_S.rf (lv_entry As hlen)
  intro v μ' k n pc L hp h1 h2 d H locs ls hI' hS' hl'
  refine W.widen h1 h2 ?_
  exact W.zret Z.1 Z.2.1 (by rw [hr, hret]) (hn v μ' hp) (fun t ht hW => ⟨⟨v, μ', rfl, hp, by show gI _ _ _; rw [ht]; exact hI'⟩, hS'.F ht⟩) hS'.2.2 d Z.2.2.2.2.2.2
/-- .. which may throw -/
theorem g_oXI {l : Launch} {y : MethodName} {ws ws' : List Cond} {rm : Room} {As : List Value} {g : gC} {μ : gM} {mc ms nL : Nat} {cc : ByteArray} {ret : Option FieldType} {ty : FieldType} {post : Int32 → gM → Prop} {bx : String → gM → Prop} (hl : l.stackTraces = false) (hcl : y.cls = RX5) (hy : plainName y.cls = true) (hw : ws = .code y cc nL ret :: ws') (hret : ret = some ty) (hn : ∀ v μ', post v μ' → narrow ty (.int v) = .int v) (hlen : (lg_sl As).length ≤ nL)
    (body : ∀ p e s m args below meth c Q, gF p l e rm s m args below meth c cc nL ws RX5 g → (∀ (v : Int32) (μ' : gM) (k n pc : Nat) (L : List (Nat × Value)), post v μ' → k ≤ mc → n ≤ ms → decode cc pc = .ok (.ireturn, 1) → J p l e rm s m args below meth c Q g nL μ' k n pc L [.int v]) → (∀ (E : String) (μ' : gM) (k n pc : Nat) (L : List (Nat × Value)) (st : List Value), bx E μ' → k ≤ mc → n ≤ ms → JX p l e rm s m args below meth c Q g nL μ' k n E pc L st) → gTh p l e rm s m args below meth c Q g nL cc ws mc ms bx → J p l e rm s m args below meth c Q g nL μ 0 0 0 (lv_args 0 As) []) : vx_Met l y ws rm (va_Pc As (gB g μ)) (va_Qi post (gPB g) (gA g)) (gPX g bx) mc ms (gA g) := by
  refine vx_ofW (cc := cc) (maxL := nL) (ret := ret) hy hw ?_
  intro p e s m args below meth c s₁ B hml hno hv
  obtain ⟨rfl, hI, hX⟩ := hv
  have hts := atoms_spec (ws := ws) B.pre
  have hown : s.vm.findClass RX5 = some m.cls := by rw [← hcl]; exact findClass_of_methodNamed B.named
  have hr := B.returns
  have Z : gF p l e rm s m As.toArray below meth c cc nL ws RX5 g := ⟨B.exec, B.bytes, hml, hown, hts, hX, B.notSynchronized⟩
  rw [lg_entry_eq]
  refine body p e s m As.toArray below meth c _ Z ?_ ?_ ?_ s.heap [] _ hI va_S.rf (lv_entry As hlen)
  · intro v μ' k n pc L hp h1 h2 d H locs ls hI' hS' hl'
    refine W.widen h1 h2 (vx_ret ?_)
    exact W.zret Z.1 Z.2.1 (by rw [hr, hret]) (hn v μ' hp) (fun t ht hW => ⟨⟨v, μ', rfl, hp, by show gI _ _ _; rw [ht]; exact hI'⟩, hS'.F ht⟩) hS'.2.2 d Z.2.2.2.2.2.2
  · intro E μ' k n pc L st hb h1 h2 H locs ls q ce hI' hS' hl' c1 c2 c3
    exact vx_out (fun x hx => (hno x hx).elim) Z.2.2.2.2.2.2 c1 c2 c3 (fun t ht hA => ⟨μ', trivial, ⟨hb, by rw [ht]; exact hI'⟩, hS'.F ht⟩) hS'.2.2 h1 h2
  · exact j_throw Z hl (fun x hx => (hno x hx).elim)
theorem g_ofV {l : Launch} {y : MethodName} {ws ws' : List Cond} {rm : Room} {As : List Value} {g : gC} {μ : gM} {mc ms nL : Nat} {cc : ByteArray} {ret : Option FieldType} {post : gM → Prop} (hy : plainName y.cls = true) (hw : ws = .code y cc nL ret :: ws') (hret : ret = none) (hlen : (lg_sl As).length ≤ nL)
    (body : ∀ p e s m args below meth c Q, gF p l e rm s m args below meth c cc nL ws y.cls g → (∀ (μ' : gM) (k n pc : Nat) (L : List (Nat × Value)), post μ' → k ≤ mc → n ≤ ms → decode cc pc = .ok (.return_, 1) → J p l e rm s m args below meth c Q g nL μ' k n pc L []) → J p l e rm s m args below meth c Q g nL μ 0 0 0 (lv_args 0 As) []) : Met l y ws rm (va_Pc As (gB g μ)) (va_Qv post (gPB g) (gA g)) mc ms (gA g) := by
  refine Met.ofW (cc := cc) (maxL := nL) (ret := ret) hy hw ?_
  intro p e s m args below meth c s₁ B hml hv
  obtain ⟨rfl, hI, hX⟩ := hv
  have hts := atoms_spec (ws := ws) B.pre
  have hown : s.vm.findClass y.cls = some m.cls := findClass_of_methodNamed B.named
  have hr := B.returns
  have Z : gF p l e rm s m As.toArray below meth c cc nL ws y.cls g := ⟨B.exec, B.bytes, hml, hown, hts, hX, B.notSynchronized⟩
  rw [lg_entry_eq]
  refine body p e s m As.toArray below meth c _ Z ?_ s.heap [] _ hI va_S.rf (lv_entry As hlen)
  intro μ' k n pc L hp h1 h2 d H locs ls hI' hS' hl'
  refine W.widen h1 h2 ?_
  exact W.vret Z.1 Z.2.1 (by rw [hr, hret]) (fun t ht hW => ⟨⟨μ', rfl, hp, by show gI _ _ _; rw [ht]; exact hI'⟩, hS'.F ht⟩) hS'.2.2 d Z.2.2.2.2.2.2
/-- .. which may throw -/
theorem g_oXV {l : Launch} {y : MethodName} {ws ws' : List Cond} {rm : Room} {As : List Value} {g : gC} {μ : gM} {mc ms nL : Nat} {cc : ByteArray} {ret : Option FieldType} {post : gM → Prop} {bx : String → gM → Prop} (hl : l.stackTraces = false) (hcl : y.cls = RX5) (hy : plainName y.cls = true) (hw : ws = .code y cc nL ret :: ws') (hret : ret = none) (hlen : (lg_sl As).length ≤ nL)
    (body : ∀ p e s m args below meth c Q, gF p l e rm s m args below meth c cc nL ws RX5 g → (∀ (μ' : gM) (k n pc : Nat) (L : List (Nat × Value)), post μ' → k ≤ mc → n ≤ ms → decode cc pc = .ok (.return_, 1) → J p l e rm s m args below meth c Q g nL μ' k n pc L []) → (∀ (E : String) (μ' : gM) (k n pc : Nat) (L : List (Nat × Value)) (st : List Value), bx E μ' → k ≤ mc → n ≤ ms → JX p l e rm s m args below meth c Q g nL μ' k n E pc L st) → gTh p l e rm s m args below meth c Q g nL cc ws mc ms bx → J p l e rm s m args below meth c Q g nL μ 0 0 0 (lv_args 0 As) []) : vx_Met l y ws rm (va_Pc As (gB g μ)) (va_Qv post (gPB g) (gA g)) (gPX g bx) mc ms (gA g) := by
  refine vx_ofW (cc := cc) (maxL := nL) (ret := ret) hy hw ?_
  intro p e s m args below meth c s₁ B hml hno hv
  obtain ⟨rfl, hI, hX⟩ := hv
  have hts := atoms_spec (ws := ws) B.pre
  have hown : s.vm.findClass RX5 = some m.cls := by rw [← hcl]; exact findClass_of_methodNamed B.named
  have hr := B.returns
  have Z : gF p l e rm s m As.toArray below meth c cc nL ws RX5 g := ⟨B.exec, B.bytes, hml, hown, hts, hX, B.notSynchronized⟩
  rw [lg_entry_eq]
  refine body p e s m As.toArray below meth c _ Z ?_ ?_ ?_ s.heap [] _ hI va_S.rf (lv_entry As hlen)
  · intro μ' k n pc L hp h1 h2 d H locs ls hI' hS' hl'
    refine W.widen h1 h2 (vx_ret ?_)
    exact W.vret Z.1 Z.2.1 (by rw [hr, hret]) (fun t ht hW => ⟨⟨μ', rfl, hp, by show gI _ _ _; rw [ht]; exact hI'⟩, hS'.F ht⟩) hS'.2.2 d Z.2.2.2.2.2.2
  · intro E μ' k n pc L st hb h1 h2 H locs ls q ce hI' hS' hl' c1 c2 c3
    exact vx_out (fun x hx => (hno x hx).elim) Z.2.2.2.2.2.2 c1 c2 c3 (fun t ht hA => ⟨μ', trivial, ⟨hb, by rw [ht]; exact hI'⟩, hS'.F ht⟩) hS'.2.2 h1 h2
  · exact j_throw Z hl (fun x hx => (hno x hx).elim)
section GC
variable {p : Program} {l : Launch} {e : Env} {R : Room} {s : State} {m : MethodId} {args : Array Value} {below : List Frame} {meth : Method} {c : Code} {Q : State → Prop} {g : gC} {nL : Nat} {μ : gM} {k n : Nat} {cc : ByteArray} {Ts : List Cond} {own : String} {pc : Nat} {L : List (Nat × Value)} {st : List Value}
theorem j_callVi (Z : gF p l e R s m args below meth c cc nL Ts own g) {y : MethodName} {ws1 ws' : List Cond} {rm : Room} {As rest : List Value} {mc ms nA maxL index : Nat} {bytes : ByteArray} {ret : Option FieldType} {post : Int32 → gM → Prop} (a : Nat) (ha : a < 181) {ci : Nat} {fs : List Value} (he : gE g (μ a) a = .inr (ci, fs)) {C : String} {T : u_T} {N : Nat} (hc : vwCl[ci]? = some (C, T, N)) (hM : Met l y ws1 rm (va_Pc (.ref (g.2.1 a) :: As) (gB g μ)) (va_Qi post (gPB g) (gA g)) mc ms (gA g)) (hT : GoodIn Ts (wsV own index C y ws1)) (hw : ws1 = Cond.code y bytes maxL ret :: ws') (hrc : rm.cells = mc) (hrs : rm.slots = ms) (hd : y.cls = C ∧ y.cls ≠ "java/lang/invoke/MethodHandle" ∧ y.cls ≠ "java/lang/invoke/VarHandle" ∧ (parseMethodDescriptor y.desc).map (fun d => d.parameters.length) = some nA) (hR : rm.frames + 1 ≤ R.frames ∧ 8 + (maxL + 11) + rm.locals ≤ R.locals) (hn : As.length = nA) (d : decode cc pc = .ok (.invokevirtual index, 3)) {stk : List Value} (hst : stk = As.reverse ++ .ref (g.2.1 a) :: rest) (hcat : (rest.map fun v => v.category).sum ≤ 8) (hroom : k + mc ≤ R.cells ∧ n + ms ≤ R.slots) (K : ∀ (r : Int32) (μ' : gM), post r μ' → J p l e R s m args below meth c Q g nL μ' (k + mc) (n + ms) (pc + 3) L (.int r :: rest)) : J p l e R s m args below meth c Q g nL μ k n pc L stk := by
  subst hst
  intro H locs ls hI hS hl
  exact va_calli (va_runV ⟨Z.1, Z.2.1, Z.2.2.1, Z.2.2.2.1, Z.2.2.2.2.1⟩ hM (cwV nA Z.2.2.2.2.1 hT hw hrc hrs hd hR) ⟨gB_blind, va_recv Z.2.2.2.2.2.1.1 hI hc (by rw [gW_at ha, he]), fun U hU hW => ⟨rfl, by rw [hU]; exact hI, gX_call Z.2.2.2.2.2.1 hS hU hW⟩⟩ rfl hn hl.1 rfl (lv_room hcat) d hroom) hS (fun _ _ h => h) (fun _ h => h) (fun r u t H1 locs1 ht hvm hp hB hz hk hS1 => K r u hp H1 locs1 ls (by rw [← ht]; exact hB) hS1 hl)
theorem j_callVxi (Z : gF p l e R s m args below meth c cc nL Ts own g) {y : MethodName} {ws1 ws' : List Cond} {rm : Room} {As rest : List Value} {mc ms nA maxL index : Nat} {bytes : ByteArray} {ret : Option FieldType} {post : Int32 → gM → Prop} {bx : String → gM → Prop} (a : Nat) (ha : a < 181) {ci : Nat} {fs : List Value} (he : gE g (μ a) a = .inr (ci, fs)) {C : String} {T : u_T} {N : Nat} (hc : vwCl[ci]? = some (C, T, N)) (hM : vx_Met l y ws1 rm (va_Pc (.ref (g.2.1 a) :: As) (gB g μ)) (va_Qi post (gPB g) (gA g)) (gPX g bx) mc ms (gA g)) (hT : GoodIn Ts (wsV own index C y ws1)) (hw : ws1 = Cond.code y bytes maxL ret :: ws') (hrc : rm.cells = mc) (hrs : rm.slots = ms) (hd : y.cls = C ∧ y.cls ≠ "java/lang/invoke/MethodHandle" ∧ y.cls ≠ "java/lang/invoke/VarHandle" ∧ (parseMethodDescriptor y.desc).map (fun d => d.parameters.length) = some nA) (hR : rm.frames + 1 ≤ R.frames ∧ 8 + (maxL + 11) + rm.locals ≤ R.locals) (hn : As.length = nA) (d : decode cc pc = .ok (.invokevirtual index, 3)) {stk : List Value} (hst : stk = As.reverse ++ .ref (g.2.1 a) :: rest) (hcat : (rest.map fun v => v.category).sum ≤ 8) (hroom : k + mc ≤ R.cells ∧ n + ms ≤ R.slots) (KX : ∀ (E : String) (μ' : gM), bx E μ' → JX p l e R s m args below meth c Q g nL μ' (k + mc) (n + ms) E pc L rest) (K : ∀ (r : Int32) (μ' : gM), post r μ' → J p l e R s m args below meth c Q g nL μ' (k + mc) (n + ms) (pc + 3) L (.int r :: rest)) : J p l e R s m args below meth c Q g nL μ k n pc L stk := by
  subst hst
  intro H locs ls hI hS hl
  exact vx_calli (vx_runV ⟨Z.1, Z.2.1, Z.2.2.1, Z.2.2.2.1, Z.2.2.2.2.1⟩ hM (cwV nA Z.2.2.2.2.1 hT hw hrc hrs hd hR) ⟨gB_blind, va_recv Z.2.2.2.2.2.1.1 hI hc (by rw [gW_at ha, he]), fun U hU hW => ⟨rfl, by rw [hU]; exact hI, gX_call Z.2.2.2.2.2.1 hS hU hW⟩⟩ rfl hn hl.1 rfl (lv_room hcat) d hroom) hS (fun _ _ h => h) (fun _ h => h) (fun _ _ h => h) (fun E ce q9 u t H1 locs1 ht hvm hp hB hz hk hS1 e1 e2 e3 => KX E u hB.1 H1 locs1 ls q9 ce (by rw [← ht]; exact hB.2) hS1 hl e1 e2 e3) (fun r u t H1 locs1 ht hvm hp hB hz hk hS1 => K r u hp H1 locs1 ls (by rw [← ht]; exact hB) hS1 hl)
theorem j_callVv (Z : gF p l e R s m args below meth c cc nL Ts own g) {y : MethodName} {ws1 ws' : List Cond} {rm : Room} {As rest : List Value} {mc ms nA maxL index : Nat} {bytes : ByteArray} {ret : Option FieldType} {post : gM → Prop} (a : Nat) (ha : a < 181) {ci : Nat} {fs : List Value} (he : gE g (μ a) a = .inr (ci, fs)) {C : String} {T : u_T} {N : Nat} (hc : vwCl[ci]? = some (C, T, N)) (hM : Met l y ws1 rm (va_Pc (.ref (g.2.1 a) :: As) (gB g μ)) (va_Qv post (gPB g) (gA g)) mc ms (gA g)) (hT : GoodIn Ts (wsV own index C y ws1)) (hw : ws1 = Cond.code y bytes maxL ret :: ws') (hrc : rm.cells = mc) (hrs : rm.slots = ms) (hd : y.cls = C ∧ y.cls ≠ "java/lang/invoke/MethodHandle" ∧ y.cls ≠ "java/lang/invoke/VarHandle" ∧ (parseMethodDescriptor y.desc).map (fun d => d.parameters.length) = some nA) (hR : rm.frames + 1 ≤ R.frames ∧ 8 + (maxL + 11) + rm.locals ≤ R.locals) (hn : As.length = nA) (d : decode cc pc = .ok (.invokevirtual index, 3)) {stk : List Value} (hst : stk = As.reverse ++ .ref (g.2.1 a) :: rest) (hcat : (rest.map fun v => v.category).sum ≤ 8) (hroom : k + mc ≤ R.cells ∧ n + ms ≤ R.slots) (K : ∀ μ' : gM, post μ' → J p l e R s m args below meth c Q g nL μ' (k + mc) (n + ms) (pc + 3) L rest) : J p l e R s m args below meth c Q g nL μ k n pc L stk := by
  subst hst
  intro H locs ls hI hS hl
  exact va_callv (va_runV ⟨Z.1, Z.2.1, Z.2.2.1, Z.2.2.2.1, Z.2.2.2.2.1⟩ hM (cwV nA Z.2.2.2.2.1 hT hw hrc hrs hd hR) ⟨gB_blind, va_recv Z.2.2.2.2.2.1.1 hI hc (by rw [gW_at ha, he]), fun U hU hW => ⟨rfl, by rw [hU]; exact hI, gX_call Z.2.2.2.2.2.1 hS hU hW⟩⟩ rfl hn hl.1 rfl (lv_room hcat) d hroom) hS (fun _ _ h => h) (fun _ h => h) (fun u t H1 locs1 ht hvm hp hB hz hk hS1 => K u hp H1 locs1 ls (by rw [← ht]; exact hB) hS1 hl)
theorem j_callVxv (Z : gF p l e R s m args below meth c cc nL Ts own g) {y : MethodName} {ws1 ws' : List Cond} {rm : Room} {As rest : List Value} {mc ms nA maxL index : Nat} {bytes : ByteArray} {ret : Option FieldType} {post : gM → Prop} {bx : String → gM → Prop} (a : Nat) (ha : a < 181) {ci : Nat} {fs : List Value} (he : gE g (μ a) a = .inr (ci, fs)) {C : String} {T : u_T} {N : Nat} (hc : vwCl[ci]? = some (C, T, N)) (hM : vx_Met l y ws1 rm (va_Pc (.ref (g.2.1 a) :: As) (gB g μ)) (va_Qv post (gPB g) (gA g)) (gPX g bx) mc ms (gA g)) (hT : GoodIn Ts (wsV own index C y ws1)) (hw : ws1 = Cond.code y bytes maxL ret :: ws') (hrc : rm.cells = mc) (hrs : rm.slots = ms) (hd : y.cls = C ∧ y.cls ≠ "java/lang/invoke/MethodHandle" ∧ y.cls ≠ "java/lang/invoke/VarHandle" ∧ (parseMethodDescriptor y.desc).map (fun d => d.parameters.length) = some nA) (hR : rm.frames + 1 ≤ R.frames ∧ 8 + (maxL + 11) + rm.locals ≤ R.locals) (hn : As.length = nA) (d : decode cc pc = .ok (.invokevirtual index, 3)) {stk : List Value} (hst : stk = As.reverse ++ .ref (g.2.1 a) :: rest) (hcat : (rest.map fun v => v.category).sum ≤ 8) (hroom : k + mc ≤ R.cells ∧ n + ms ≤ R.slots) (KX : ∀ (E : String) (μ' : gM), bx E μ' → JX p l e R s m args below meth c Q g nL μ' (k + mc) (n + ms) E pc L rest) (K : ∀ μ' : gM, post μ' → J p l e R s m args below meth c Q g nL μ' (k + mc) (n + ms) (pc + 3) L rest) : J p l e R s m args below meth c Q g nL μ k n pc L stk := by
  subst hst
  intro H locs ls hI hS hl
  exact vx_callv (vx_runV ⟨Z.1, Z.2.1, Z.2.2.1, Z.2.2.2.1, Z.2.2.2.2.1⟩ hM (cwV nA Z.2.2.2.2.1 hT hw hrc hrs hd hR) ⟨gB_blind, va_recv Z.2.2.2.2.2.1.1 hI hc (by rw [gW_at ha, he]), fun U hU hW => ⟨rfl, by rw [hU]; exact hI, gX_call Z.2.2.2.2.2.1 hS hU hW⟩⟩ rfl hn hl.1 rfl (lv_room hcat) d hroom) hS (fun _ _ h => h) (fun _ h => h) (fun _ _ h => h) (fun E ce q9 u t H1 locs1 ht hvm hp hB hz hk hS1 e1 e2 e3 => KX E u hB.1 H1 locs1 ls q9 ce (by rw [← ht]; exact hB.2) hS1 hl e1 e2 e3) (fun u t H1 locs1 ht hvm hp hB hz hk hS1 => K u hp H1 locs1 ls (by rw [← ht]; exact hB) hS1 hl)
theorem j_callSi (Z : gF p l e R s m args below meth c cc nL Ts own g) {y : MethodName} {ws1 ws' : List Cond} {rm : Room} {As rest : List Value} {mc ms nA maxL index : Nat} {bytes : ByteArray} {ret : Option FieldType} {post : Int32 → gM → Prop} (hM : Met l y ws1 rm (va_Pc As (gB g μ)) (va_Qi post (gPB g) (gA g)) mc ms (gA g)) (hT : GoodIn Ts (va_wsS own index y ws1)) (hw : ws1 = Cond.code y bytes maxL ret :: ws') (hrc : rm.cells = mc) (hrs : rm.slots = ms) (hd : y.cls ≠ "java/lang/invoke/MethodHandle" ∧ y.cls ≠ "java/lang/invoke/VarHandle" ∧ (parseMethodDescriptor y.desc).map (fun d => d.parameters.length) = some nA) (hR : rm.frames + 1 ≤ R.frames ∧ 8 + (maxL + 11) + rm.locals ≤ R.locals) (hn : As.length = nA) (d : decode cc pc = .ok (.invokestatic index, 3)) {stk : List Value} (hst : stk = As.reverse ++ rest) (hcat : (rest.map fun v => v.category).sum ≤ 8) (hroom : k + mc ≤ R.cells ∧ n + ms ≤ R.slots) (K : ∀ (r : Int32) (μ' : gM), post r μ' → J p l e R s m args below meth c Q g nL μ' (k + mc) (n + ms) (pc + 3) L (.int r :: rest)) : J p l e R s m args below meth c Q g nL μ k n pc L stk := by
  subst hst
  intro H locs ls hI hS hl
  exact va_calli (va_runS ⟨Z.1, Z.2.1, Z.2.2.1, Z.2.2.2.1, Z.2.2.2.2.1⟩ hM (va_cwS nA Z.2.2.2.2.1 hT hw hrc hrs hd hR) ⟨gB_blind, fun U hU hW => ⟨rfl, by rw [hU]; exact hI, gX_call Z.2.2.2.2.2.1 hS hU hW⟩⟩ rfl hn hl.1 rfl (lv_room hcat) d hroom) hS (fun _ _ h => h) (fun _ h => h) (fun r u t H1 locs1 ht hvm hp hB hz hk hS1 => K r u hp H1 locs1 ls (by rw [← ht]; exact hB) hS1 hl)
theorem j_callSxi (Z : gF p l e R s m args below meth c cc nL Ts own g) {y : MethodName} {ws1 ws' : List Cond} {rm : Room} {As rest : List Value} {mc ms nA maxL index : Nat} {bytes : ByteArray} {ret : Option FieldType} {post : Int32 → gM → Prop} {bx : String → gM → Prop} (hM : vx_Met l y ws1 rm (va_Pc As (gB g μ)) (va_Qi post (gPB g) (gA g)) (gPX g bx) mc ms (gA g)) (hT : GoodIn Ts (va_wsS own index y ws1)) (hw : ws1 = Cond.code y bytes maxL ret :: ws') (hrc : rm.cells = mc) (hrs : rm.slots = ms) (hd : y.cls ≠ "java/lang/invoke/MethodHandle" ∧ y.cls ≠ "java/lang/invoke/VarHandle" ∧ (parseMethodDescriptor y.desc).map (fun d => d.parameters.length) = some nA) (hR : rm.frames + 1 ≤ R.frames ∧ 8 + (maxL + 11) + rm.locals ≤ R.locals) (hn : As.length = nA) (d : decode cc pc = .ok (.invokestatic index, 3)) {stk : List Value} (hst : stk = As.reverse ++ rest) (hcat : (rest.map fun v => v.category).sum ≤ 8) (hroom : k + mc ≤ R.cells ∧ n + ms ≤ R.slots) (KX : ∀ (E : String) (μ' : gM), bx E μ' → JX p l e R s m args below meth c Q g nL μ' (k + mc) (n + ms) E pc L rest) (K : ∀ (r : Int32) (μ' : gM), post r μ' → J p l e R s m args below meth c Q g nL μ' (k + mc) (n + ms) (pc + 3) L (.int r :: rest)) : J p l e R s m args below meth c Q g nL μ k n pc L stk := by
  subst hst
  intro H locs ls hI hS hl
  exact vx_calli (vx_runS ⟨Z.1, Z.2.1, Z.2.2.1, Z.2.2.2.1, Z.2.2.2.2.1⟩ hM (va_cwS nA Z.2.2.2.2.1 hT hw hrc hrs hd hR) ⟨gB_blind, fun U hU hW => ⟨rfl, by rw [hU]; exact hI, gX_call Z.2.2.2.2.2.1 hS hU hW⟩⟩ rfl hn hl.1 rfl (lv_room hcat) d hroom) hS (fun _ _ h => h) (fun _ h => h) (fun _ _ h => h) (fun E ce q9 u t H1 locs1 ht hvm hp hB hz hk hS1 e1 e2 e3 => KX E u hB.1 H1 locs1 ls q9 ce (by rw [← ht]; exact hB.2) hS1 hl e1 e2 e3) (fun r u t H1 locs1 ht hvm hp hB hz hk hS1 => K r u hp H1 locs1 ls (by rw [← ht]; exact hB) hS1 hl)
theorem j_callSv (Z : gF p l e R s m args below meth c cc nL Ts own g) {y : MethodName} {ws1 ws' : List Cond} {rm : Room} {As rest : List Value} {mc ms nA maxL index : Nat} {bytes : ByteArray} {ret : Option FieldType} {post : gM → Prop} (hM : Met l y ws1 rm (va_Pc As (gB g μ)) (va_Qv post (gPB g) (gA g)) mc ms (gA g)) (hT : GoodIn Ts (va_wsS own index y ws1)) (hw : ws1 = Cond.code y bytes maxL ret :: ws') (hrc : rm.cells = mc) (hrs : rm.slots = ms) (hd : y.cls ≠ "java/lang/invoke/MethodHandle" ∧ y.cls ≠ "java/lang/invoke/VarHandle" ∧ (parseMethodDescriptor y.desc).map (fun d => d.parameters.length) = some nA) (hR : rm.frames + 1 ≤ R.frames ∧ 8 + (maxL + 11) + rm.locals ≤ R.locals) (hn : As.length = nA) (d : decode cc pc = .ok (.invokestatic index, 3)) {stk : List Value} (hst : stk = As.reverse ++ rest) (hcat : (rest.map fun v => v.category).sum ≤ 8) (hroom : k + mc ≤ R.cells ∧ n + ms ≤ R.slots) (K : ∀ μ' : gM, post μ' → J p l e R s m args below meth c Q g nL μ' (k + mc) (n + ms) (pc + 3) L rest) : J p l e R s m args below meth c Q g nL μ k n pc L stk := by
  subst hst
  intro H locs ls hI hS hl
  exact va_callv (va_runS ⟨Z.1, Z.2.1, Z.2.2.1, Z.2.2.2.1, Z.2.2.2.2.1⟩ hM (va_cwS nA Z.2.2.2.2.1 hT hw hrc hrs hd hR) ⟨gB_blind, fun U hU hW => ⟨rfl, by rw [hU]; exact hI, gX_call Z.2.2.2.2.2.1 hS hU hW⟩⟩ rfl hn hl.1 rfl (lv_room hcat) d hroom) hS (fun _ _ h => h) (fun _ h => h) (fun u t H1 locs1 ht hvm hp hB hz hk hS1 => K u hp H1 locs1 ls (by rw [← ht]; exact hB) hS1 hl)
theorem j_callSxv (Z : gF p l e R s m args below meth c cc nL Ts own g) {y : MethodName} {ws1 ws' : List Cond} {rm : Room} {As rest : List Value} {mc ms nA maxL index : Nat} {bytes : ByteArray} {ret : Option FieldType} {post : gM → Prop} {bx : String → gM → Prop} (hM : vx_Met l y ws1 rm (va_Pc As (gB g μ)) (va_Qv post (gPB g) (gA g)) (gPX g bx) mc ms (gA g)) (hT : GoodIn Ts (va_wsS own index y ws1)) (hw : ws1 = Cond.code y bytes maxL ret :: ws') (hrc : rm.cells = mc) (hrs : rm.slots = ms) (hd : y.cls ≠ "java/lang/invoke/MethodHandle" ∧ y.cls ≠ "java/lang/invoke/VarHandle" ∧ (parseMethodDescriptor y.desc).map (fun d => d.parameters.length) = some nA) (hR : rm.frames + 1 ≤ R.frames ∧ 8 + (maxL + 11) + rm.locals ≤ R.locals) (hn : As.length = nA) (d : decode cc pc = .ok (.invokestatic index, 3)) {stk : List Value} (hst : stk = As.reverse ++ rest) (hcat : (rest.map fun v => v.category).sum ≤ 8) (hroom : k + mc ≤ R.cells ∧ n + ms ≤ R.slots) (KX : ∀ (E : String) (μ' : gM), bx E μ' → JX p l e R s m args below meth c Q g nL μ' (k + mc) (n + ms) E pc L rest) (K : ∀ μ' : gM, post μ' → J p l e R s m args below meth c Q g nL μ' (k + mc) (n + ms) (pc + 3) L rest) : J p l e R s m args below meth c Q g nL μ k n pc L stk := by
  subst hst
  intro H locs ls hI hS hl
  exact vx_callv (vx_runS ⟨Z.1, Z.2.1, Z.2.2.1, Z.2.2.2.1, Z.2.2.2.2.1⟩ hM (va_cwS nA Z.2.2.2.2.1 hT hw hrc hrs hd hR) ⟨gB_blind, fun U hU hW => ⟨rfl, by rw [hU]; exact hI, gX_call Z.2.2.2.2.2.1 hS hU hW⟩⟩ rfl hn hl.1 rfl (lv_room hcat) d hroom) hS (fun _ _ h => h) (fun _ h => h) (fun _ _ h => h) (fun E ce q9 u t H1 locs1 ht hvm hp hB hz hk hS1 e1 e2 e3 => KX E u hB.1 H1 locs1 ls q9 ce (by rw [← ht]; exact hB.2) hS1 hl e1 e2 e3) (fun u t H1 locs1 ht hvm hp hB hz hk hS1 => K u hp H1 locs1 ls (by rw [← ht]; exact hB) hS1 hl)
end GC
