/-! the law's loop: what it asks for beside -/
theorem and31 (a : Int32) : ∃ j : Nat, j < 32 ∧ a &&& 31 = nI j := by
  refine ⟨(a &&& 31).toBitVec.toNat, ?_, ?_⟩
  · show (a.toBitVec &&& (31 : Int32).toBitVec).toNat < 32
    rw [BitVec.toNat_and]
    have e : (31 : Int32).toBitVec.toNat = 31 := by decide
    rw [e]
    have := Nat.and_le_right (n := a.toBitVec.toNat) (m := 31)
    omega
  · apply Int32.toBitVec_inj.mp
    show _ = (Int32.ofNat _).toBitVec
    simp [Int32.ofNat]
    rfl
theorem lg_same (x : Int64) : lg_cmp x x = 0 := by
  unfold lg_cmp
  simp
theorem law_in {L t : Nat} (hL : L ≤ 3584) (ht : 7 * t ≤ L) (h : ¬ Int32.ofNat L - 7 < nI (7 * t)) : 7 * t + 7 ≤ L := by
  rw [Int32.lt_iff_toInt_lt] at h
  have e1 : (nI (7 * t)).toInt = ((7 * t : Nat) : Int) := nI_toInt (by omega)
  have e2 : (Int32.ofNat L - 7).toInt = (L : Int) - 7 := by
    rw [Int32.toInt_sub]
    have e3 : (Int32.ofNat L).toInt = (L : Int) := nI_toInt (n := L) (by omega)
    have e4 : (7 : Int32).toInt = 7 := by decide
    rw [e3, e4]
    exact Int.bmod_eq_of_le (by omega) (by omega)
  rw [e1, e2] at h
  omega
theorem rm_k {t mc ms : Nat} (ht : t < 512) (h1 : mc ≤ 7) (h2 : ms ≤ 42) : (120 + 7 * t) + mc ≤ room_1.cells ∧ (9100 + 42 * t) + ms ≤ room_1.slots := ⟨by show _ ≤ 601024; omega, by show _ ≤ 7293034; omega⟩
theorem rm_k0 {t mc ms : Nat} (ht : t < 512) (h1 : mc ≤ 7) (h2 : ms ≤ 42) : (120 + 7 * t) + mc + 0 ≤ room_1.cells ∧ (9100 + 42 * t) + ms + 0 ≤ room_1.slots := rm_k ht h1 h2
theorem zB_01 (b : Bool) : zB b = 0 ∨ zB b = 1 := by cases b <;> decide
theorem ite_01 {c : Prop} [Decidable c] {b : Bool} : (if c then zB b else 0) = 0 ∨ (if c then zB b else 0) = 1 := by
  by_cases h : c
  · rw [if_pos h]; exact zB_01 b
  · rw [if_neg h]; exact Or.inl rfl
section GJL
variable {p : Program} {l : Launch} {e : Env} {R : Room} {s : State} {m : MethodId} {args : Array Value} {below : List Frame} {meth : Method} {c : Code} {Q : State → Prop} {g : gC} {nL : Nat} {μ : gM} {k n : Nat} {cc : ByteArray} {Ts : List Cond} {own : String} {pc : Nat} {L : List (Nat × Value)} {st : List Value}
theorem j_sld (Z : gF p l e R s m args below meth c cc nL Ts own g) {b N : Nat} {xs : Nat → Int32} (hX : va_X b N xs s s.heap) (hbl : b < s.heap.size) (hg : g.2.2.2 = s.heap.size) (hN : N ≤ 4096) (i : Nat) (hi : i < N) (d : decode cc pc = .ok (.iaload, 1)) (K : J p l e R s m args below meth c Q g nL μ k n (pc + 1) L (.int (xs i) :: st)) : J p l e R s m args below meth c Q g nL μ k n pc L (.int (nI i) :: .ref b :: st) := by
  intro H locs ls hI hS hl
  refine va_sld Z.1 Z.2.1 hX hbl (by show ¬ g.2.2.2 ≤ b; omega) hS (nI_vp hi hN) d ?_
  rw [nI_cl hi hN]
  exact K H locs ls hI hS hl
theorem j_slen (Z : gF p l e R s m args below meth c cc nL Ts own g) {b N : Nat} {xs : Nat → Int32} (hX : va_X b N xs s s.heap) (hbl : b < s.heap.size) (hg : g.2.2.2 = s.heap.size) (d : decode cc pc = .ok (.arraylength, 1)) (K : J p l e R s m args below meth c Q g nL μ k n (pc + 1) L (.int (Int32.ofNat N) :: st)) : J p l e R s m args below meth c Q g nL μ k n pc L (.ref b :: st) := by
  intro H locs ls hI hS hl
  exact va_slen Z.1 Z.2.1 hX hbl (by show ¬ g.2.2.2 ≤ b; omega) hS d (K H locs ls hI hS hl)
theorem j_tsIn (Z : gF p l e R s m args below meth c cc nL Ts own g) {dflt lo hi : Int} {offs : Array Int} {len : Nat} {x : Int32} {off : Int} (tgt : Nat) (d : decode cc pc = .ok (.tableswitch dflt lo hi offs, len)) (h1 : ¬ x.toInt < lo) (h2 : ¬ hi < x.toInt) (ho : offs[(x.toInt - lo).toNat]? = some off) (ht : (pc : Int) + off = (tgt : Int)) (K : J p l e R s m args below meth c Q g nL μ k n tgt L st) : J p l e R s m args below meth c Q g nL μ k n pc L (.int x :: st) :=
  fun H locs ls hI hS hl => lv_tableIn Z.1 Z.2.1 d h1 h2 ho ht (K H locs ls hI hS hl)
theorem j_tsOut (Z : gF p l e R s m args below meth c cc nL Ts own g) {dflt lo hi : Int} {offs : Array Int} {len : Nat} {x : Int32} (tgt : Nat) (d : decode cc pc = .ok (.tableswitch dflt lo hi offs, len)) (h : x.toInt < lo ∨ hi < x.toInt) (ht : (pc : Int) + dflt = (tgt : Int)) (K : J p l e R s m args below meth c Q g nL μ k n tgt L st) : J p l e R s m args below meth c Q g nL μ k n pc L (.int x :: st) :=
  fun H locs ls hI hS hl => lv_tableOut Z.1 Z.2.1 d h ht (K H locs ls hI hS hl)
end GJL
