/-! the law's own methods: their refusals caught; calls of them -/
/-- pairs of exceptions of which none is the other -/
def gNp : List (String × String) := [(eS, eA), (eS, eI), (eS, gNs), (eA, eS), (eA, eI), (eA, gNs), (eI, eS), (eI, eA), (eI, gNs), (gNs, eS), (gNs, eA), (gNs, eI)]
def gN (U : State) : Prop := ∀ q ∈ gNp, va_Nc q.1 q.2 U
def gBW (g : gC) (μ : gM) (U : State) : Prop := gB g μ U ∧ gN U
theorem gBW_blind {As : List Value} {g : gC} {μ : gM} : FrameBlind (va_Pc As (gBW g μ)) := fun a U f mk q => ⟨q.1, ⟨q.2.1.1, gX_same (u := U) (U := U.calling f mk a) rfl rfl q.2.1.2⟩, fun z hz => (q.2.2 z hz).moved (Vm.Alike.refl U.vm)⟩
theorem g_oW {l : Launch} {y : MethodName} {ws ws' : List Cond} {rm : Room} {As : List Value} {g : gC} {μ : gM} {mc ms nL : Nat} {cc : ByteArray} {hh : List (Nat × Nat × Nat × Nat)} {post : Int32 → gM → Prop} (hy : plainName y.cls = true) (hw : ws = .codeWith y cc nL (some .int) hh :: ws') (hlen : (lg_sl As).length ≤ nL)
    (body : ∀ p e s m args below meth c Q, gF p l e rm s m args below meth c cc nL ws y.cls g → c.exceptionTable.toList = tableOf hh → gN s → (∀ (v : Int32) (μ' : gM) (k n pc : Nat) (L : List (Nat × Value)), post v μ' → k ≤ mc → n ≤ ms → decode cc pc = .ok (.ireturn, 1) → J p l e rm s m args below meth c Q g nL μ' k n pc L [.int v]) → J p l e rm s m args below meth c Q g nL μ 0 0 0 (lv_args 0 As) []) : Met l y ws rm (va_Pc As (gBW g μ)) (va_Qi post (gPB g) (gA g)) mc ms (gA g) := by
  refine va_MetW (cc := cc) (maxL := nL) (ret := some .int) (hh := hh) hy hw ?_
  intro p e s m args below meth c s₁ B hml hv
  obtain ⟨rfl, ⟨hI, hX⟩, hN⟩ := hv
  have hts := atoms_spec (ws := ws) B.pre
  have hown : s.vm.findClass y.cls = some m.cls := findClass_of_methodNamed B.named
  have hr := B.returns
  have ht : c.exceptionTable.toList = tableOf hh := vx_table (x := y) B (hts _ (by rw [hw]; exact List.mem_cons_self))
  have Z : gF p l e rm s m As.toArray below meth c cc nL ws y.cls g := ⟨B.exec, B.bytes, hml, hown, hts, hX, B.notSynchronized⟩
  rw [lg_entry_eq]
  refine body p e s m As.toArray below meth c _ Z ht hN ?_ s.heap [] _ hI va_S.rf (lv_entry As hlen)
  intro v μ' k n pc L hp h1 h2 d H locs ls hI' hS' hl'
  refine W.widen h1 h2 ?_
  exact W.iret (v := v) Z.1 Z.2.1 hr (fun t ht hW => ⟨⟨v, μ', rfl, hp, by show gI _ _ _; rw [ht]; exact hI'⟩, hS'.F ht⟩) hS'.2.2 d Z.2.2.2.2.2.2
section GWC
variable {p : Program} {l : Launch} {e : Env} {R : Room} {s : State} {m : MethodId} {args : Array Value} {below : List Frame} {meth : Method} {c : Code} {Q : State → Prop} {g : gC} {nL : Nat} {μ : gM} {k n : Nat} {cc : ByteArray} {Ts : List Cond} {own : String} {pc : Nat} {L : List (Nat × Value)} {st : List Value}
theorem jx_catch (Z : gF p l e R s m args below meth c cc nL Ts own g) (hN : gN s) {E : String} (pre : List ExceptionTableEntry) (x : ExceptionTableEntry) (suf : List ExceptionTableEntry) (hs : c.exceptionTable.toList = pre ++ x :: suf) (hpass : ∀ z ∈ pre, z.catchType ≠ 0 ∧ ∃ nm : String, Cond.classLink own z.catchType nm ∈ Ts ∧ (E, nm) ∈ gNp) (hx : covers x pc = true) (h0 : x.catchType ≠ 0) (hl : Cond.classLink own x.catchType E ∈ Ts) (hc : Cond.castable E E ∈ gXw) (K : ∀ q : Nat, J p l e R s m args below meth c Q g nL μ k n x.handlerPc L [.ref q]) : JX p l e R s m args below meth c Q g nL μ k n E pc L st :=
  fun H locs ls q ce hI hS hls h1 h2 h3 => vx_catch Z.2.2.2.1 pre x suf hs (fun z hz => Or.inr ⟨(hpass z hz).1, by obtain ⟨-, nm, a1, a2⟩ := hpass z hz; exact ⟨nm, Z.2.2.2.2.1 _ a1, hN _ a2⟩⟩) hx h0 (Z.2.2.2.2.1 _ hl) (va_Nw.use rfl (Z.2.2.2.2.2.1.2.2.2.2.2 _ hc)) h1 h2 h3 (K q H locs ls hI hS hls)
theorem j_callSWi (Z : gF p l e R s m args below meth c cc nL Ts own g) (hN : gN s) {y : MethodName} {ws1 ws' : List Cond} {rm : Room} {As rest : List Value} {mc ms nA maxL index : Nat} {bytes : ByteArray} {ret : Option FieldType} {hh : List (Nat × Nat × Nat × Nat)} {post : Int32 → gM → Prop} (hM : Met l y ws1 rm (va_Pc As (gBW g μ)) (va_Qi post (gPB g) (gA g)) mc ms (gA g)) (hT : GoodIn Ts (va_wsS own index y ws1)) (hw : ws1 = Cond.codeWith y bytes maxL ret hh :: ws') (hrc : rm.cells = mc) (hrs : rm.slots = ms) (hd : y.cls ≠ "java/lang/invoke/MethodHandle" ∧ y.cls ≠ "java/lang/invoke/VarHandle" ∧ (parseMethodDescriptor y.desc).map (fun d => d.parameters.length) = some nA) (hR : rm.frames + 1 ≤ R.frames ∧ 8 + (maxL + 11) + rm.locals ≤ R.locals) (hn : As.length = nA) (d : decode cc pc = .ok (.invokestatic index, 3)) {stk : List Value} (hst : stk = As.reverse ++ rest) (hcat : (rest.map fun v => v.category).sum ≤ 8) (hroom : k + mc ≤ R.cells ∧ n + ms ≤ R.slots) (K : ∀ (r : Int32) (μ' : gM), post r μ' → J p l e R s m args below meth c Q g nL μ' (k + mc) (n + ms) (pc + 3) L (.int r :: rest)) : J p l e R s m args below meth c Q g nL μ k n pc L stk := by
  subst hst
  intro H locs ls hI hS hl
  exact va_calli (vx_runSW ⟨Z.1, Z.2.1, Z.2.2.1, Z.2.2.2.1, Z.2.2.2.2.1⟩ hM (vx_cwSW nA Z.2.2.2.2.1 hT hw hrc hrs hd hR) ⟨gBW_blind, fun U hU hW => ⟨rfl, ⟨by rw [hU]; exact hI, gX_call Z.2.2.2.2.2.1 hS hU hW⟩, fun z hz => (hN z hz).moved hW.alike⟩⟩ rfl hn hl.1 rfl (lv_room hcat) d hroom) hS (fun _ _ h => h) (fun _ h => h) (fun r u t H1 locs1 ht hvm hp hB hz hk hS1 => K r u hp H1 locs1 ls (by rw [← ht]; exact hB) hS1 hl)
theorem j_callBi (Z : gF p l e R s m args below meth c cc nL Ts own g) (hN : gN s) {y : MethodName} {ws1 ws' : List Cond} {rm : Room} {As rest : List Value} {mc ms nA maxL index : Nat} {bytes : ByteArray} {ret : Option FieldType} {post : Int32 → gM → Prop} (hM : Met l y ws1 rm (va_Pc As (gBW g μ)) (va_Qi post (gPB g) (gA g)) mc ms (gA g)) (hT : GoodIn Ts (va_wsS own index y ws1)) (hw : ws1 = Cond.code y bytes maxL ret :: ws') (hrc : rm.cells = mc) (hrs : rm.slots = ms) (hd : y.cls ≠ "java/lang/invoke/MethodHandle" ∧ y.cls ≠ "java/lang/invoke/VarHandle" ∧ (parseMethodDescriptor y.desc).map (fun d => d.parameters.length) = some nA) (hR : rm.frames + 1 ≤ R.frames ∧ 8 + (maxL + 11) + rm.locals ≤ R.locals) (hn : As.length = nA) (d : decode cc pc = .ok (.invokestatic index, 3)) {stk : List Value} (hst : stk = As.reverse ++ rest) (hcat : (rest.map fun v => v.category).sum ≤ 8) (hroom : k + mc ≤ R.cells ∧ n + ms ≤ R.slots) (K : ∀ (r : Int32) (μ' : gM), post r μ' → J p l e R s m args below meth c Q g nL μ' (k + mc) (n + ms) (pc + 3) L (.int r :: rest)) : J p l e R s m args below meth c Q g nL μ k n pc L stk := by
  subst hst
  intro H locs ls hI hS hl
  exact va_calli (va_runS ⟨Z.1, Z.2.1, Z.2.2.1, Z.2.2.2.1, Z.2.2.2.2.1⟩ hM (va_cwS nA Z.2.2.2.2.1 hT hw hrc hrs hd hR) ⟨gBW_blind, fun U hU hW => ⟨rfl, ⟨by rw [hU]; exact hI, gX_call Z.2.2.2.2.2.1 hS hU hW⟩, fun z hz => (hN z hz).moved hW.alike⟩⟩ rfl hn hl.1 rfl (lv_room hcat) d hroom) hS (fun _ _ h => h) (fun _ h => h) (fun r u t H1 locs1 ht hvm hp hB hz hk hS1 => K r u hp H1 locs1 ls (by rw [← ht]; exact hB) hS1 hl)
end GWC
theorem zB_one {b : Bool} (h : ¬ zB b = 0) : zB b = 1 := by rw [zB_1 h]; rfl
theorem g_oB {l : Launch} {y : MethodName} {ws ws' : List Cond} {rm : Room} {As : List Value} {g : gC} {μ : gM} {mc ms nL : Nat} {cc : ByteArray} {ret : Option FieldType} {ty : FieldType} {post : Int32 → gM → Prop} (hy : plainName y.cls = true) (hw : ws = .code y cc nL ret :: ws') (hret : ret = some ty) (hn : ∀ v μ', post v μ' → narrow ty (.int v) = .int v) (hlen : (lg_sl As).length ≤ nL)
    (body : ∀ p e s m args below meth c Q, gF p l e rm s m args below meth c cc nL ws y.cls g → gN s → (∀ (v : Int32) (μ' : gM) (k n pc : Nat) (L : List (Nat × Value)), post v μ' → k ≤ mc → n ≤ ms → decode cc pc = .ok (.ireturn, 1) → J p l e rm s m args below meth c Q g nL μ' k n pc L [.int v]) → J p l e rm s m args below meth c Q g nL μ 0 0 0 (lv_args 0 As) []) : Met l y ws rm (va_Pc As (gBW g μ)) (va_Qi post (gPB g) (gA g)) mc ms (gA g) := by
  refine Met.ofW (cc := cc) (maxL := nL) (ret := ret) hy hw ?_
  intro p e s m args below meth c s₁ B hml hv
  obtain ⟨rfl, ⟨hI, hX⟩, hN⟩ := hv
  have hts := atoms_spec (ws := ws) B.pre
  have hown : s.vm.findClass y.cls = some m.cls := findClass_of_methodNamed B.named
  have hr := B.returns
  have Z : gF p l e rm s m As.toArray below meth c cc nL ws y.cls g := ⟨B.exec, B.bytes, hml, hown, hts, hX, B.notSynchronized⟩
  rw [lg_entry_eq]
  refine body p e s m As.toArray below meth c _ Z hN ?_ s.heap [] _ hI va_S.rf (lv_entry As hlen)
  intro v μ' k n pc L hp h1 h2 d H locs ls hI' hS' hl'
  refine W.widen h1 h2 ?_
  exact W.zret Z.1 Z.2.1 (by rw [hr, hret]) (hn v μ' hp) (fun t ht hW => ⟨⟨v, μ', rfl, hp, by show gI _ _ _; rw [ht]; exact hI'⟩, hS'.F ht⟩) hS'.2.2 d Z.2.2.2.2.2.2
