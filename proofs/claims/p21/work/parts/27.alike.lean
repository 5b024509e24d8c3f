/-! alike registers answer alike; both together -/
theorem v_counts {μ ν μ' ν' : gM} {cnt lc wc : Nat} {x z : Int32} {r r' : Int32} (I : I1 μ cnt lc wc) (I' : I1 ν cnt lc wc) (P : PE μ ν) (hp : (r = (zB (fStand μ (ix x) z)) ∧ k2 (fndB cnt x) (inB z 0 9999) = 0 ∧ μ' = μ) ∨ (r = -2000000001 ∧ k2 (fndB cnt x) (inB z 0 9999) = 1 ∧ μ' = μ) ∨ (r = -2000000002 ∧ k2 (fndB cnt x) (inB z 0 9999) = 2 ∧ μ' = μ)) (hp' : (r' = (zB (fStand ν (ix x) z)) ∧ k2 (fndB cnt x) (inB z 0 9999) = 0 ∧ ν' = ν) ∨ (r' = -2000000001 ∧ k2 (fndB cnt x) (inB z 0 9999) = 1 ∧ ν' = ν) ∨ (r' = -2000000002 ∧ k2 (fndB cnt x) (inB z 0 9999) = 2 ∧ ν' = ν)) : r' = r := by
  have hn := I.c60
  have h := (n_counts I I.rf hp).2
  have h' := (n_counts I' I'.rf hp').2
  clear hp hp'
  cases hA : (fndB cnt x)
  · rw [h.1 hA, h'.1 hA]
  · skip
    cases hB : (inB z 0 9999)
    · rw [h.2.1 hA hB, h'.2.1 hA hB]
    · skip
      rw [h.2.2 hA hB, h'.2.2 hA hB]
      exact by rw [P.stand]
theorem v_things {μ ν μ' ν' : gM} {cnt lc wc : Nat} {z : Int32} {r r' : Int32} (I : I1 μ cnt lc wc) (I' : I1 ν cnt lc wc) (P : PE μ ν) (hp : (r = (nI (cB (fun k => decide ((fSort μ cnt z (μ 23)) k = nI k)) cnt)) ∧ k1 (inB z 0 9999) = 0 ∧ μ' = gR μ 23 (fSort μ cnt z (μ 23))) ∨ (r = -2000000002 ∧ k1 (inB z 0 9999) = 1 ∧ μ' = μ)) (hp' : (r' = (nI (cB (fun k => decide ((fSort ν cnt z (ν 23)) k = nI k)) cnt)) ∧ k1 (inB z 0 9999) = 0 ∧ ν' = gR ν 23 (fSort ν cnt z (ν 23))) ∨ (r' = -2000000002 ∧ k1 (inB z 0 9999) = 1 ∧ ν' = ν)) : r' = r := by
  have hn := I.c60
  have h := (n_things I I.rf hp).2
  have h' := (n_things I' I'.rf hp').2
  clear hp hp'
  cases hA : (inB z 0 9999)
  · rw [h.1 hA, h'.1 hA]
  · skip
    rw [h.2 hA, h'.2 hA]
    exact congrArg nI (by unfold nT; rw [P.things hn])
theorem v_thing {μ ν μ' ν' : gM} {cnt lc wc : Nat} {x z : Int32} {r r' : Int32} (I : I1 μ cnt lc wc) (I' : I1 ν cnt lc wc) (P : PE μ ν) (hp : (r = (fSort μ cnt z (μ 23) (ix x)) ∧ k3 (fndB cnt x) (inB z 0 9999) (!decide (fSort μ cnt z (μ 23) (ix x) = -1)) = 0 ∧ μ' = gR μ 23 (fSort μ cnt z (μ 23))) ∨ (r = -2000000001 ∧ k3 (fndB cnt x) (inB z 0 9999) (!decide (fSort μ cnt z (μ 23) (ix x) = -1)) = 1 ∧ μ' = μ) ∨ (r = -2000000002 ∧ k3 (fndB cnt x) (inB z 0 9999) (!decide (fSort μ cnt z (μ 23) (ix x) = -1)) = 2 ∧ μ' = μ) ∨ (r = -2000000004 ∧ k3 (fndB cnt x) (inB z 0 9999) (!decide (fSort μ cnt z (μ 23) (ix x) = -1)) = 3 ∧ μ' = gR μ 23 (fSort μ cnt z (μ 23)))) (hp' : (r' = (fSort ν cnt z (ν 23) (ix x)) ∧ k3 (fndB cnt x) (inB z 0 9999) (!decide (fSort ν cnt z (ν 23) (ix x) = -1)) = 0 ∧ ν' = gR ν 23 (fSort ν cnt z (ν 23))) ∨ (r' = -2000000001 ∧ k3 (fndB cnt x) (inB z 0 9999) (!decide (fSort ν cnt z (ν 23) (ix x) = -1)) = 1 ∧ ν' = ν) ∨ (r' = -2000000002 ∧ k3 (fndB cnt x) (inB z 0 9999) (!decide (fSort ν cnt z (ν 23) (ix x) = -1)) = 2 ∧ ν' = ν) ∨ (r' = -2000000004 ∧ k3 (fndB cnt x) (inB z 0 9999) (!decide (fSort ν cnt z (ν 23) (ix x) = -1)) = 3 ∧ ν' = gR ν 23 (fSort ν cnt z (ν 23)))) : r' = r := by
  have hn := I.c60
  have h := (n_thing I I.rf hp).2
  have h' := (n_thing I' I'.rf hp').2
  clear hp hp'
  rw [P.stand] at h'
  cases hA : (fndB cnt x)
  · rw [h.1 hA, h'.1 hA]
  · skip
    cases hB : (inB z 0 9999)
    · rw [h.2.1 hA hB, h'.2.1 hA hB]
    · skip
      cases hC : (fStand μ (ix x) z)
      · rw [h.2.2.1 hA hB hC, h'.2.2.1 hA hB hC]
      · skip
        rw [h.2.2.2 hA hB hC, h'.2.2.2 hA hB hC]
        exact by rw [P.things hn]
theorem v_value {μ ν μ' ν' : gM} {cnt lc wc : Nat} {x a z : Int32} {r r' : Int32} (I : I1 μ cnt lc wc) (I' : I1 ν cnt lc wc) (P : PE μ ν) (hp : (r = (aVal (fSort μ cnt z (μ 23)) (μ (29 + (ix a))) (fPl μ) ((fSort μ cnt z (μ 23)) (ix x)) cnt) ∧ k3 (fndB cnt x) (inB a 0 1 && inB z 0 9999) (!decide (fSort μ cnt z (μ 23) (ix x) = -1)) = 0 ∧ μ' = gR μ 23 (fSort μ cnt z (μ 23))) ∨ (r = -2000000001 ∧ k3 (fndB cnt x) (inB a 0 1 && inB z 0 9999) (!decide (fSort μ cnt z (μ 23) (ix x) = -1)) = 1 ∧ μ' = μ) ∨ (r = -2000000002 ∧ k3 (fndB cnt x) (inB a 0 1 && inB z 0 9999) (!decide (fSort μ cnt z (μ 23) (ix x) = -1)) = 2 ∧ μ' = μ) ∨ (r = -2000000004 ∧ k3 (fndB cnt x) (inB a 0 1 && inB z 0 9999) (!decide (fSort μ cnt z (μ 23) (ix x) = -1)) = 3 ∧ μ' = gR μ 23 (fSort μ cnt z (μ 23)))) (hp' : (r' = (aVal (fSort ν cnt z (ν 23)) (ν (29 + (ix a))) (fPl ν) ((fSort ν cnt z (ν 23)) (ix x)) cnt) ∧ k3 (fndB cnt x) (inB a 0 1 && inB z 0 9999) (!decide (fSort ν cnt z (ν 23) (ix x) = -1)) = 0 ∧ ν' = gR ν 23 (fSort ν cnt z (ν 23))) ∨ (r' = -2000000001 ∧ k3 (fndB cnt x) (inB a 0 1 && inB z 0 9999) (!decide (fSort ν cnt z (ν 23) (ix x) = -1)) = 1 ∧ ν' = ν) ∨ (r' = -2000000002 ∧ k3 (fndB cnt x) (inB a 0 1 && inB z 0 9999) (!decide (fSort ν cnt z (ν 23) (ix x) = -1)) = 2 ∧ ν' = ν) ∨ (r' = -2000000004 ∧ k3 (fndB cnt x) (inB a 0 1 && inB z 0 9999) (!decide (fSort ν cnt z (ν 23) (ix x) = -1)) = 3 ∧ ν' = gR ν 23 (fSort ν cnt z (ν 23)))) : r' = r := by
  have hn := I.c60
  have h := (n_value I I.rf hp).2
  have h' := (n_value I' I'.rf hp').2
  clear hp hp'
  rw [P.stand] at h'
  cases hA : (fndB cnt x)
  · rw [h.1 hA, h'.1 hA]
  · skip
    cases hB : (inB a 0 1 && inB z 0 9999)
    · rw [h.2.1 hA hB, h'.2.1 hA hB]
    · skip
      cases hC : (fStand μ (ix x) z)
      · rw [h.2.2.1 hA hB hC, h'.2.2.1 hA hB hC]
      · skip
        rw [h.2.2.2 hA hB hC, h'.2.2.2 hA hB hC]
        exact by rw [P.things hn, P.at29 (two_ix hB), P.pl]
theorem v_disputed {μ ν μ' ν' : gM} {cnt lc wc : Nat} {a z : Int32} {r r' : Int32} (I : I1 μ cnt lc wc) (I' : I1 ν cnt lc wc) (P : PE μ ν) (hp : (r = (nI (cB (fun k => decide ((fSort μ cnt z (μ 23)) k = nI k) && uBad (fSort μ cnt z (μ 23)) (μ (29 + (ix a))) (nI k) cnt) cnt)) ∧ k1 (inB a 0 1 && inB z 0 9999) = 0 ∧ μ' = gR μ 23 (fSort μ cnt z (μ 23))) ∨ (r = -2000000002 ∧ k1 (inB a 0 1 && inB z 0 9999) = 1 ∧ μ' = μ)) (hp' : (r' = (nI (cB (fun k => decide ((fSort ν cnt z (ν 23)) k = nI k) && uBad (fSort ν cnt z (ν 23)) (ν (29 + (ix a))) (nI k) cnt) cnt)) ∧ k1 (inB a 0 1 && inB z 0 9999) = 0 ∧ ν' = gR ν 23 (fSort ν cnt z (ν 23))) ∨ (r' = -2000000002 ∧ k1 (inB a 0 1 && inB z 0 9999) = 1 ∧ ν' = ν)) : r' = r := by
  have hn := I.c60
  have h := (n_disputed I I.rf hp).2
  have h' := (n_disputed I' I'.rf hp').2
  clear hp hp'
  cases hA : (inB a 0 1 && inB z 0 9999)
  · rw [h.1 hA, h'.1 hA]
  · skip
    rw [h.2 hA, h'.2 hA]
    exact by rw [P.things hn, P.at29 (two_ix hA)]
theorem v_impact {μ ν μ' ν' : gM} {cnt lc wc : Nat} {x z : Int32} {r r' : Int32} (I : I1 μ cnt lc wc) (I' : I1 ν cnt lc wc) (P : PE μ ν) (hp : (r = (nI (cB (fun k => !decide ((gFail μ (fSort μ cnt z (μ 23)) lc (ix ((fSort μ cnt z (μ 23)) (ix x)))) k = 0)) 60)) ∧ k3 (fndB cnt x) (inB z 0 9999) (!decide (fSort μ cnt z (μ 23) (ix x) = -1)) = 0 ∧ μ' = gR (gR μ 23 (fSort μ cnt z (μ 23))) 18 (gFail μ (fSort μ cnt z (μ 23)) lc (ix ((fSort μ cnt z (μ 23)) (ix x))))) ∨ (r = -2000000001 ∧ k3 (fndB cnt x) (inB z 0 9999) (!decide (fSort μ cnt z (μ 23) (ix x) = -1)) = 1 ∧ μ' = μ) ∨ (r = -2000000002 ∧ k3 (fndB cnt x) (inB z 0 9999) (!decide (fSort μ cnt z (μ 23) (ix x) = -1)) = 2 ∧ μ' = μ) ∨ (r = -2000000004 ∧ k3 (fndB cnt x) (inB z 0 9999) (!decide (fSort μ cnt z (μ 23) (ix x) = -1)) = 3 ∧ μ' = gR μ 23 (fSort μ cnt z (μ 23)))) (hp' : (r' = (nI (cB (fun k => !decide ((gFail ν (fSort ν cnt z (ν 23)) lc (ix ((fSort ν cnt z (ν 23)) (ix x)))) k = 0)) 60)) ∧ k3 (fndB cnt x) (inB z 0 9999) (!decide (fSort ν cnt z (ν 23) (ix x) = -1)) = 0 ∧ ν' = gR (gR ν 23 (fSort ν cnt z (ν 23))) 18 (gFail ν (fSort ν cnt z (ν 23)) lc (ix ((fSort ν cnt z (ν 23)) (ix x))))) ∨ (r' = -2000000001 ∧ k3 (fndB cnt x) (inB z 0 9999) (!decide (fSort ν cnt z (ν 23) (ix x) = -1)) = 1 ∧ ν' = ν) ∨ (r' = -2000000002 ∧ k3 (fndB cnt x) (inB z 0 9999) (!decide (fSort ν cnt z (ν 23) (ix x) = -1)) = 2 ∧ ν' = ν) ∨ (r' = -2000000004 ∧ k3 (fndB cnt x) (inB z 0 9999) (!decide (fSort ν cnt z (ν 23) (ix x) = -1)) = 3 ∧ ν' = gR ν 23 (fSort ν cnt z (ν 23)))) : r' = r := by
  have hn := I.c60
  have h := (n_impact I I.rf hp).2
  have h' := (n_impact I' I'.rf hp').2
  clear hp hp'
  rw [P.stand] at h'
  cases hA : (fndB cnt x)
  · rw [h.1 hA, h'.1 hA]
  · skip
    cases hB : (inB z 0 9999)
    · rw [h.2.1 hA hB, h'.2.1 hA hB]
    · skip
      cases hC : (fStand μ (ix x) z)
      · rw [h.2.2.1 hA hB hC, h'.2.2.1 hA hB hC]
      · skip
        rw [h.2.2.2 hA hB hC, h'.2.2.2 hA hB hC]
        exact by rw [P.things hn, P.fm hn]
theorem v_differing {μ ν μ' ν' : gM} {cnt lc wc : Nat} {x z : Int32} {r r' : Int32} (I : I1 μ cnt lc wc) (I' : I1 ν cnt lc wc) (P : PE μ ν) (hp : (r = (nI (cB (fun k => decide ((fSort μ cnt z (μ 23)) k = nI k) && (hMark (fSort μ cnt z (μ 23)) (μ (26 + ix (μ 19 (ix x)))) (nI k) (μ 20 (ix x)) cnt && !decide (aVal (fSort μ cnt z (μ 23)) (μ (29 + ix (μ 21 (ix x)))) (fPl μ) (nI k) cnt = μ 22 (ix x)))) cnt)) ∧ k2 (fndB wc x) (inB z 0 9999) = 0 ∧ μ' = gR μ 23 (fSort μ cnt z (μ 23))) ∨ (r = -2000000001 ∧ k2 (fndB wc x) (inB z 0 9999) = 1 ∧ μ' = μ) ∨ (r = -2000000002 ∧ k2 (fndB wc x) (inB z 0 9999) = 2 ∧ μ' = μ)) (hp' : (r' = (nI (cB (fun k => decide ((fSort ν cnt z (ν 23)) k = nI k) && (hMark (fSort ν cnt z (ν 23)) (ν (26 + ix (ν 19 (ix x)))) (nI k) (ν 20 (ix x)) cnt && !decide (aVal (fSort ν cnt z (ν 23)) (ν (29 + ix (ν 21 (ix x)))) (fPl ν) (nI k) cnt = ν 22 (ix x)))) cnt)) ∧ k2 (fndB wc x) (inB z 0 9999) = 0 ∧ ν' = gR ν 23 (fSort ν cnt z (ν 23))) ∨ (r' = -2000000001 ∧ k2 (fndB wc x) (inB z 0 9999) = 1 ∧ ν' = ν) ∨ (r' = -2000000002 ∧ k2 (fndB wc x) (inB z 0 9999) = 2 ∧ ν' = ν)) : r' = r := by
  have hn := I.c60
  have h := (n_differing I I.rf hp).2
  have h' := (n_differing I' I'.rf hp').2
  clear hp hp'
  cases hA : (fndB wc x)
  · rw [h.1 hA, h'.1 hA]
  · skip
    cases hB : (inB z 0 9999)
    · rw [h.2.1 hA hB, h'.2.1 hA hB]
    · skip
      rw [h.2.2 hA hB, h'.2.2 hA hB]
      exact by rw [P.things hn, P 19 (by unfold Pc; omega), P 20 (by unfold Pc; omega), P 21 (by unfold Pc; omega), P 22 (by unfold Pc; omega), P.at26 (vp_ix (I.1.2.2.2.2.2.2.2.2.2.2.1 _) (by decide)).2, P.at29 (vp_ix (I.1.2.2.2.2.2.2.2.2.2.2.2 _) (by decide)).2, P.pl]
/-- both registers: each as it must be, both alike, the law's numbers theirs -/
def Rel (μ : gM) (cnt lc wc : Nat) : Prop := I1 μ cnt lc wc ∧ I1 (sw μ) cnt lc wc ∧ PE μ (sw μ) ∧ μ 25 0 = nI cnt ∧ μ 25 2 = nI wc
theorem gs_out {k : Nat} (h : k < 25 ∨ (26 ≤ k ∧ k < 31) ∨ (50 ≤ k ∧ k < 110)) : (31 ≤ gs k ∧ gs k < 50) ∨ (110 ≤ gs k ∧ gs k < 181) := by
  unfold gs
  repeat' split
  all_goals omega
theorem Rel.scA {μ μ' : gM} {cnt lc wc : Nat} (R : Rel μ cnt lc wc) (S : Sc cnt μ μ') : Rel μ' cnt lc wc := by
  obtain ⟨I, I2, P, h0, h2⟩ := R
  have e : ∀ k, (k < 25 ∨ (26 ≤ k ∧ k < 31) ∨ (50 ≤ k ∧ k < 110)) → sw μ' k = sw μ k := fun k hk => by
    have := gs_out hk
    exact S.1 (gs k) (by omega) (by omega) (by omega)
  have P2 : PE (sw μ) (sw μ') := fun k hk => e k hk.1
  refine ⟨I.sc S, I2.pe P2 (fun k hk => ?_), ?_, ?_, ?_⟩
  · rw [e 23 (by omega), e 24 (by omega)]; exact I2.2.1 k hk
  · exact (S.pe.symm.trans P).trans P2
  · rw [S.1 25 (by decide) (by decide) (by decide)]; exact h0
  · rw [S.1 25 (by decide) (by decide) (by decide)]; exact h2
theorem Rel.swap {μ : gM} {cnt lc wc : Nat} (R : Rel μ cnt lc wc) : Rel (sw μ) cnt lc wc := ⟨R.2.1, by rw [sw_sw]; exact R.1, by rw [sw_sw]; exact R.2.2.1.symm, R.2.2.2.1, R.2.2.2.2⟩
theorem Rel.scB {μ ν : gM} {cnt lc wc : Nat} (R : Rel μ cnt lc wc) (S : Sc cnt (sw μ) ν) : Rel (sw ν) cnt lc wc := (R.swap.scA S).swap
section JALL
variable {p : Program} {l : Launch} {e : Env} {R : Room} {s : State} {m : MethodId} {args : Array Value} {below : List Frame} {meth : Method} {c : Code} {Q : State → Prop} {g : gC} {nL : Nat} {μ : gM} {k n : Nat} {cc : ByteArray} {Ts : List Cond} {own : String} {pc : Nat} {L : List (Nat × Value)} {st : List Value}
/-- of the memory only this is kept in mind -/
theorem j_all (P : gM → Prop) (h : P μ) (K : ∀ ξ, P ξ → J p l e R s m args below meth c Q g nL ξ k n pc L st) : J p l e R s m args below meth c Q g nL μ k n pc L st := K μ h
theorem j_tsIn (Z : gF p l e R s m args below meth c cc nL Ts own g) {dflt lo hi : Int} {offs : Array Int} {len : Nat} {x : Int32} {off : Int} (tgt : Nat) (d : decode cc pc = .ok (.tableswitch dflt lo hi offs, len)) (h1 : ¬ x.toInt < lo) (h2 : ¬ hi < x.toInt) (ho : offs[(x.toInt - lo).toNat]? = some off) (ht : (pc : Int) + off = (tgt : Int)) (K : J p l e R s m args below meth c Q g nL μ k n tgt L st) : J p l e R s m args below meth c Q g nL μ k n pc L (.int x :: st) :=
  fun H locs ls hI hS hl => lv_tableIn Z.1 Z.2.1 d h1 h2 ho ht (K H locs ls hI hS hl)
theorem j_tsOut (Z : gF p l e R s m args below meth c cc nL Ts own g) {dflt lo hi : Int} {offs : Array Int} {len : Nat} {x : Int32} (tgt : Nat) (d : decode cc pc = .ok (.tableswitch dflt lo hi offs, len)) (h : x.toInt < lo ∨ hi < x.toInt) (ht : (pc : Int) + dflt = (tgt : Int)) (K : J p l e R s m args below meth c Q g nL μ k n tgt L st) : J p l e R s m args below meth c Q g nL μ k n pc L (.int x :: st) :=
  fun H locs ls hI hS hl => lv_tableOut Z.1 Z.2.1 d h ht (K H locs ls hI hS hl)
end JALL
