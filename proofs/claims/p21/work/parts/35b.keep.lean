/-! the law's loop: what it keeps -/
section GXC
variable {p : Program} {l : Launch} {e : Env} {R : Room} {s : State} {m : MethodId} {args : Array Value} {below : List Frame} {meth : Method} {c : Code} {Q : State → Prop} {g : gC} {nL : Nat} {μ : gM} {k n : Nat} {cc : ByteArray} {Ts : List Cond} {own : String} {pc : Nat} {L : List (Nat × Value)} {st : List Value}
theorem j_callXi (Z : gF p l e R s m args below meth c cc nL Ts own g) {b L0 : Nat} {xs : Nat → Int32} (hX : va_X b L0 xs s s.heap) (hbl : b < s.heap.size) (hbA : ¬ gA g b) {y : MethodName} {ws1 ws' : List Cond} {rm : Room} {As rest : List Value} {mc ms nA maxL index : Nat} {bytes : ByteArray} {ret : Option FieldType} {post : Int32 → gM → Prop} (hM : Met l y ws1 rm (va_Pc As (gBX g μ b L0 xs)) (va_Qi post (gPB g) (gA g)) mc ms (gA g)) (hT : GoodIn Ts (va_wsS own index y ws1)) (hw : ws1 = Cond.code y bytes maxL ret :: ws') (hrc : rm.cells = mc) (hrs : rm.slots = ms) (hd : y.cls ≠ "java/lang/invoke/MethodHandle" ∧ y.cls ≠ "java/lang/invoke/VarHandle" ∧ (parseMethodDescriptor y.desc).map (fun d => d.parameters.length) = some nA) (hR : rm.frames + 1 ≤ R.frames ∧ 8 + (maxL + 11) + rm.locals ≤ R.locals) (hn : As.length = nA) (d : decode cc pc = .ok (.invokestatic index, 3)) {stk : List Value} (hst : stk = As.reverse ++ rest) (hcat : (rest.map fun v => v.category).sum ≤ 8) (hroom : k + mc ≤ R.cells ∧ n + ms ≤ R.slots) (K : ∀ (r : Int32) (μ' : gM), post r μ' → J p l e R s m args below meth c Q g nL μ' (k + mc) (n + ms) (pc + 3) L (.int r :: rest)) : J p l e R s m args below meth c Q g nL μ k n pc L stk := by
  subst hst
  intro H locs ls hI hS hl
  exact va_calli (va_runS ⟨Z.1, Z.2.1, Z.2.2.1, Z.2.2.2.1, Z.2.2.2.2.1⟩ hM (va_cwS nA Z.2.2.2.2.1 hT hw hrc hrs hd hR) ⟨gBX_blind, fun U hU hW => ⟨rfl, ⟨by rw [hU]; exact hI, gX_call Z.2.2.2.2.2.1 hS hU hW⟩, by rw [hU]; exact va_X.moved hW.alike (hX.kept (hS.2.1 b hbl hbA)), by rw [hU]; exact Nat.lt_of_lt_of_le hbl hS.1, hbA⟩⟩ rfl hn hl.1 rfl (lv_room hcat) d hroom) hS (fun _ _ h => h) (fun _ h => h) (fun r u t H1 locs1 ht hvm hp hB hz hk hS1 => K r u hp H1 locs1 ls (by rw [← ht]; exact hB) hS1 hl)
end GXC
theorem gs_np {k : Nat} (h : k < 25 ∨ (26 ≤ k ∧ k < 31) ∨ (50 ≤ k ∧ k < 110)) : ¬ Pc (gs k) := by
  have := gs_out h
  unfold Pc
  omega
def Co (μ : gM) (cnt lc wc : Nat) : Prop := I1 μ cnt lc wc ∧ I1 (sw μ) cnt lc wc ∧ PE μ (sw μ)
def Rn (μ : gM) (cnt lc wc A B : Nat) : Prop := Co μ cnt lc wc ∧ μ 25 0 = nI A ∧ μ 25 2 = nI B
theorem Rn.rel {μ : gM} {cnt lc wc : Nat} (h : Rn μ cnt lc wc cnt wc) : Rel μ cnt lc wc := ⟨h.1.1, h.1.2.1, h.1.2.2, h.2.1, h.2.2⟩
theorem Co.u {μ : gM} {cnt lc wc : Nat} (h : Co μ cnt lc wc) (i : Nat) (v : Int32) : Co (gU μ 25 i v) cnt lc wc := by
  have e1 : ∀ k, (k < 25 ∨ (26 ≤ k ∧ k < 31) ∨ (50 ≤ k ∧ k < 110)) → gU μ 25 i v k = μ k := fun k hk => gU_n (by omega)
  have e2 : ∀ k, (k < 25 ∨ (26 ≤ k ∧ k < 31) ∨ (50 ≤ k ∧ k < 110)) → sw (gU μ 25 i v) k = sw μ k := fun k hk => by
    have := gs_out hk
    exact gU_n (j := gs k) (k := 25) (by omega)
  refine ⟨h.1.pe (fun k hk => e1 k hk.1) (fun k hk => ?_), h.2.1.pe (fun k hk => e2 k hk.1) (fun k hk => ?_), fun k hk => ?_⟩
  · rw [e1 23 (by omega), e1 24 (by omega)]; exact h.1.2.1 k hk
  · rw [e2 23 (by omega), e2 24 (by omega)]; exact h.2.1.2.1 k hk
  · rw [e1 k hk.1, e2 k hk.1]; exact h.2.2 k hk
theorem Rn.u0 {μ : gM} {cnt lc wc A B : Nat} (h : Rn μ cnt lc wc A B) (A' : Nat) : Rn (gU μ 25 0 (nI A')) cnt lc wc A' B := ⟨h.1.u 0 _, by rw [gU_s, upd_s], by rw [gU_s, upd_n (by decide)]; exact h.2.2⟩
theorem Rn.u1 {μ : gM} {cnt lc wc A B : Nat} (h : Rn μ cnt lc wc A B) (y : Int32) : Rn (gU μ 25 1 y) cnt lc wc A B := ⟨h.1.u 1 _, by rw [gU_s, upd_n (by decide)]; exact h.2.1, by rw [gU_s, upd_n (by decide)]; exact h.2.2⟩
theorem Rn.u2 {μ : gM} {cnt lc wc A B : Nat} (h : Rn μ cnt lc wc A B) (B' : Nat) : Rn (gU μ 25 2 (nI B')) cnt lc wc A B' := ⟨h.1.u 2 _, by rw [gU_s, upd_n (by decide)]; exact h.2.1, by rw [gU_s, upd_s]⟩
theorem n25P : ¬ Pc 25 := by unfold Pc; omega
theorem law_a1 {ξ : gM} {cnt lc wc : Nat} (a : Nat) (R : Rel ξ cnt lc wc) : I1 (sw (actM ξ cnt lc wc a)) cnt lc wc ∧ sw (actM ξ cnt lc wc a) 25 = ξ 25 := by
  obtain ⟨I, I2, -, -, -⟩ := R
  have O := act_ow ξ lc wc a I.c60
  have e1 : ∀ k, (k < 25 ∨ (26 ≤ k ∧ k < 31) ∨ (50 ≤ k ∧ k < 110)) → sw (actM ξ cnt lc wc a) k = sw ξ k := fun k hk => O (gs k) (gs_np hk)
  refine ⟨I2.pe (fun k hk => e1 k hk.1) (fun k hk => ?_), O 25 n25P⟩
  rw [e1 23 (by omega), e1 24 (by omega)]
  exact I2.2.1 k hk
theorem law_act {ξ ν : gM} {cnt lc wc : Nat} (a : Nat) (R : Rel ξ cnt lc wc) (S : Sc cnt (sw (actM ξ cnt lc wc a)) ν) : actR ν cnt lc wc a = actR ξ cnt lc wc a ∧ ∃ lc', Rn (sw (actM ν cnt lc wc a)) (aC ξ cnt lc wc a) lc' (aW ξ cnt lc wc a) cnt wc := by
  have I2' := (law_a1 a R).1
  have q25 := (law_a1 a R).2
  obtain ⟨I, I2, P, h0, h2⟩ := R
  have O := act_ow ξ lc wc a I.c60
  have e1 : PE (sw ξ) (sw (actM ξ cnt lc wc a)) := fun k hk => O (gs k) (gs_np hk.1)
  have Iν := I2'.sc S
  obtain ⟨er, em⟩ := act_pe a ((P.trans e1).trans S.pe) I.c60
  have O2 := act_ow ν lc wc a I.c60
  have e2 : ∀ k, (k < 25 ∨ (26 ≤ k ∧ k < 31) ∨ (50 ≤ k ∧ k < 110)) → sw (actM ν cnt lc wc a) k = actM ξ cnt lc wc a k := fun k hk => by
    have h9 := gs_out hk
    refine (O2 (gs k) (gs_np hk)).trans ((S.1 (gs k) (by omega) (by omega) (by omega)).trans ?_)
    show actM ξ cnt lc wc a (gs (gs k)) = _
    rw [gs_gs]
  obtain ⟨lc', A⟩ := act_i a I
  obtain ⟨lc2, A2⟩ := act_i a Iν
  have ec : aC ν cnt lc wc a = aC ξ cnt lc wc a := by unfold aC; rw [er]
  refine ⟨er, lc', ⟨A.pe (fun k hk => e2 k hk.1) (fun k hk => ?_), ?_, ?_⟩, ?_, ?_⟩
  · rw [e2 23 (by omega), e2 24 (by omega)]; exact A.2.1 k hk
  · rw [sw_sw]
    exact A.pe em (fun k hk => A2.2.1 k (by rw [ec]; exact hk))
  · rw [sw_sw]
    exact PE.trans (fun k hk => (e2 k hk.1).symm) em
  · have h9 : sw (actM ν cnt lc wc a) 25 = ξ 25 := (O2 25 n25P).trans ((S.1 25 (by decide) (by decide) (by decide)).trans q25)
    rw [h9]; exact h0
  · have h9 : sw (actM ν cnt lc wc a) 25 = ξ 25 := (O2 25 n25P).trans ((S.1 25 (by decide) (by decide) (by decide)).trans q25)
    rw [h9]; exact h2
