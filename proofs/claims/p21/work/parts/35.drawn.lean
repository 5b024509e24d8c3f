/-! what is drawn from the script -/
theorem and_nn (a : Int32) : ¬ (a &&& 2147483647) < 0 := by
  have h : ∃ j : Nat, j < 2 ^ 31 ∧ a &&& 2147483647 = nI j := by
    refine ⟨(a &&& 2147483647).toBitVec.toNat, ?_, ?_⟩
    · show (a.toBitVec &&& (2147483647 : Int32).toBitVec).toNat < 2 ^ 31
      rw [BitVec.toNat_and]
      have e : (2147483647 : Int32).toBitVec.toNat = 2147483647 := by decide
      rw [e]
      have := Nat.and_le_right (n := a.toBitVec.toNat) (m := 2147483647)
      omega
    · apply Int32.toBitVec_inj.mp
      show _ = (Int32.ofNat _).toBitVec
      simp [Int32.ofNat]
      rfl
  obtain ⟨j, hj, e⟩ := h
  rw [e]
  exact nI_pos hj
def gBX (g : gC) (μ : gM) (b L : Nat) (xs : Nat → Int32) (U : State) : Prop := gB g μ U ∧ va_X b L xs U U.heap ∧ b < U.heap.size ∧ ¬ gA g b
theorem gBX_blind {As : List Value} {g : gC} {μ : gM} {b L : Nat} {xs : Nat → Int32} : FrameBlind (va_Pc As (gBX g μ b L xs)) := fun a U f mk q => ⟨q.1, ⟨q.2.1.1, gX_same (u := U) (U := U.calling f mk a) rfl rfl q.2.1.2⟩, va_X.moved (u := U) (U := U.calling f mk a) (Vm.Alike.refl U.vm) q.2.2.1, q.2.2.2⟩
section GJX
variable {p : Program} {l : Launch} {e : Env} {R : Room} {s : State} {m : MethodId} {args : Array Value} {below : List Frame} {meth : Method} {c : Code} {Q : State → Prop} {g : gC} {nL : Nat} {μ : gM} {k n : Nat} {cc : ByteArray} {Ts : List Cond} {own : String} {pc : Nat} {L : List (Nat × Value)} {st : List Value}
theorem j_sld (Z : gF p l e R s m args below meth c cc nL Ts own g) {b N : Nat} {xs : Nat → Int32} (hX : va_X b N xs s s.heap) (hbl : b < s.heap.size) (hg : ¬ gA g b) (hN : N ≤ 4096) (i : Nat) (hi : i < N) (d : decode cc pc = .ok (.iaload, 1)) (K : J p l e R s m args below meth c Q g nL μ k n (pc + 1) L (.int (xs i) :: st)) : J p l e R s m args below meth c Q g nL μ k n pc L (.int (nI i) :: .ref b :: st) := by
  intro H locs ls hI hS hl
  refine va_sld Z.1 Z.2.1 hX hbl hg hS (nI_vp hi hN) d ?_
  rw [nI_cl hi hN]
  exact K H locs ls hI hS hl
theorem j_slen (Z : gF p l e R s m args below meth c cc nL Ts own g) {b N : Nat} {xs : Nat → Int32} (hX : va_X b N xs s s.heap) (hbl : b < s.heap.size) (hg : ¬ gA g b) (d : decode cc pc = .ok (.arraylength, 1)) (K : J p l e R s m args below meth c Q g nL μ k n (pc + 1) L (.int (Int32.ofNat N) :: st)) : J p l e R s m args below meth c Q g nL μ k n pc L (.ref b :: st) := by
  intro H locs ls hI hS hl
  exact va_slen Z.1 Z.2.1 hX hbl hg hS d (K H locs ls hI hS hl)
end GJX
theorem g_oX {l : Launch} {y : MethodName} {ws ws' : List Cond} {rm : Room} {As : List Value} {g : gC} {μ : gM} {mc ms nL : Nat} {cc : ByteArray} {ret : Option FieldType} {ty : FieldType} {post : Int32 → gM → Prop} {b L : Nat} {xs : Nat → Int32} (hy : plainName y.cls = true) (hw : ws = .code y cc nL ret :: ws') (hret : ret = some ty) (hn : ∀ v μ', post v μ' → narrow ty (.int v) = .int v) (hlen : (lg_sl As).length ≤ nL)
    (body : ∀ p e s m args below meth c Q, gF p l e rm s m args below meth c cc nL ws y.cls g → va_X b L xs s s.heap → b < s.heap.size → ¬ gA g b → (∀ (v : Int32) (μ' : gM) (k n pc : Nat) (L : List (Nat × Value)), post v μ' → k ≤ mc → n ≤ ms → decode cc pc = .ok (.ireturn, 1) → J p l e rm s m args below meth c Q g nL μ' k n pc L [.int v]) → J p l e rm s m args below meth c Q g nL μ 0 0 0 (lv_args 0 As) []) : Met l y ws rm (va_Pc As (gBX g μ b L xs)) (va_Qi post (gPB g) (gA g)) mc ms (gA g) := by
  refine Met.ofW (cc := cc) (maxL := nL) (ret := ret) hy hw ?_
  intro p e s m args below meth c s₁ B hml hv
  obtain ⟨rfl, ⟨hI, hX⟩, hXs, hbl, hbA⟩ := hv
  have hts := atoms_spec (ws := ws) B.pre
  have hown : s.vm.findClass y.cls = some m.cls := findClass_of_methodNamed B.named
  have hr := B.returns
  have Z : gF p l e rm s m As.toArray below meth c cc nL ws y.cls g := ⟨B.exec, B.bytes, hml, hown, hts, hX, B.notSynchronized⟩
  rw [lg_entry_eq]
  refine body p e s m As.toArray below meth c _ Z hXs hbl hbA ?_ s.heap [] _ hI va_S.rf (lv_entry As hlen)
  intro v μ' k n pc L hp h1 h2 d H locs ls hI' hS' hl'
  refine W.widen h1 h2 ?_
  exact W.zret Z.1 Z.2.1 (by rw [hr, hret]) (hn v μ' hp) (fun t ht hW => ⟨⟨v, μ', rfl, hp, by show gI _ _ _; rw [ht]; exact hI'⟩, hS'.F ht⟩) hS'.2.2 d Z.2.2.2.2.2.2
theorem mwL_drawn_k80 : Cond.constant RL 80 15524651 ∈ wsL_drawn := by decide +kernel
theorem mwL_drawn_k81 : Cond.constant RL 81 2147483647 ∈ wsL_drawn := by decide +kernel
set_option maxRecDepth 100000 in
set_option maxHeartbeats 4000000 in
theorem c_L_drawn (l : Launch) (g : gC) (μ : gM) (b L t : Nat) (xs : Nat → Int32) (hL : L ≤ 260) (ht : t < 100) : Met l yL_drawn wsL_drawn { frames := 0, cells := 0, slots := 0, locals := 0 } (va_Pc [.ref b, .int (nI t)] (gBX g μ b L xs)) (va_Qi (fun (r : Int32) (μ' : gM) => ¬ r < 0 ∧ μ' = μ) (gPB g) (gA g)) 0 0 (gA g) := by
  refine g_oX (cc := cL_drawn) (nL := 2) (ret := (some .int)) (ty := .int) (by decide +kernel) rfl rfl (fun _ _ _ => rfl) (Nat.le_of_ble_eq_true rfl) ?_
  intro p e s m args below meth c Q Z hXs hbl hbA hR
  have J22 : ∀ v : Int32, J p l e { frames := 0, cells := 0, slots := 0, locals := 0 } s m args below meth c Q g 2 μ 0 0 22 [(0, .ref b), (1, .int (nI t))] [.int v] := by
    intro v
    refine j_ldc Z mwL_drawn_k81 dL_drawn_22 ?_
    refine j_iand Z dL_drawn_24 ?_
    exact hR _ _ _ _ _ _ ⟨and_nn v, rfl⟩ (by decide) (by decide) dL_drawn_25
  refine j_iload_n Z dL_drawn_0 1 rfl ?_
  refine j_aload_n Z dL_drawn_1 0 rfl ?_
  refine j_slen Z hXs hbl hbA dL_drawn_2 ?_
  refine j_icmp_ge Z 12 dL_drawn_3 (by decide) (fun h3 => ?_) (fun h3 => ?_)
  · refine j_ldc Z mwL_drawn_k80 dL_drawn_12 ?_
    refine j_iload_n Z dL_drawn_14 1 rfl ?_
    refine j_iconst Z (v := 3) dL_drawn_15 (by decide) ?_
    refine j_iadd Z dL_drawn_16 ?_
    refine j_imul Z dL_drawn_17 ?_
    refine j_sipush Z (v := 13751) dL_drawn_18 (by decide) ?_
    refine j_iadd Z dL_drawn_21 ?_
    exact J22 _
  · have htl : t < L := by
      refine Nat.not_le.mp (fun q => h3 ?_)
      exact (nI_leI (a := L) (b := t) (by omega) (by omega)).mpr q
    refine j_aload_n Z dL_drawn_6 0 rfl ?_
    refine j_iload_n Z dL_drawn_7 1 rfl ?_
    refine j_sld Z hXs hbl hbA (by omega) t htl dL_drawn_8 ?_
    refine j_goto Z 22 dL_drawn_9 (by decide) ?_
    exact J22 _
