/-! what holds of a register between calls, what of it stays, and what its answers rest on -/
/-- the first register's cells but those that are laid anew at each question -/
def Pc (k : Nat) : Prop := (k < 25 ∨ (26 ≤ k ∧ k < 31) ∨ (50 ≤ k ∧ k < 110)) ∧ k ≠ 18 ∧ k ≠ 23 ∧ k ≠ 24
def PE (μ ν : gM) : Prop := ∀ k, Pc k → ν k = μ k
def I1 (μ : gM) (cnt lc wc : Nat) : Prop := gV μ cnt lc wc ∧ (∀ k, cnt ≤ k → μ 23 k = 0 ∧ μ 24 k = 0) ∧ (∃ d, d ≤ 9999 ∧ μ 0 0 = nI d) ∧ (∀ k, k < 4 → inB (μ 7 k) 0 999 = true) ∧ (∀ k, k < lc → inB (μ 17 k) 0 3 = true) ∧ (∀ i j, i < 60 → j < 60 → μ (50 + i) j = μ (50 + j) i ∧ inB (μ (50 + i) j) 0 2 = true) ∧ ∀ k, cnt ≤ k → μ 11 k = 0
/-- only what is laid anew has changed -/
def Sc (cnt : Nat) (μ μ' : gM) : Prop := (∀ k, k ≠ 18 → k ≠ 23 → k ≠ 24 → μ' k = μ k) ∧ ∀ k, cnt ≤ k → μ' 23 k = 0 ∧ μ' 24 k = 0
theorem PE.rf {μ : gM} : PE μ μ := fun _ _ => rfl
theorem PE.symm {μ ν : gM} (h : PE μ ν) : PE ν μ := fun k hk => (h k hk).symm
theorem PE.trans {μ ν ξ : gM} (h : PE μ ν) (h2 : PE ν ξ) : PE μ ξ := fun k hk => (h2 k hk).trans (h k hk)
theorem Sc.pe {cnt : Nat} {μ μ' : gM} (h : Sc cnt μ μ') : PE μ μ' := fun k hk => h.1 k hk.2.1 hk.2.2.1 hk.2.2.2
theorem Sc.trans {cnt : Nat} {μ μ' μ2 : gM} (h : Sc cnt μ μ') (h2 : Sc cnt μ' μ2) : Sc cnt μ μ2 := ⟨fun k a b c => (h2.1 k a b c).trans (h.1 k a b c), h2.2⟩
theorem I1.rf {μ : gM} {cnt lc wc : Nat} (h : I1 μ cnt lc wc) : Sc cnt μ μ := ⟨fun _ _ _ _ => rfl, h.2.1⟩
theorem I1.pe {μ ν : gM} {cnt lc wc : Nat} (h : I1 μ cnt lc wc) (hp : PE μ ν) (ht : ∀ k, cnt ≤ k → ν 23 k = 0 ∧ ν 24 k = 0) : I1 ν cnt lc wc := by
  obtain ⟨hV, -, hd, h7, hg, htl, h11⟩ := h
  have e : ∀ k, Pc k → ν k = μ k := hp
  refine ⟨?_, ht, ?_, ?_, ?_, fun i j hi hj => ?_, ?_⟩
  · unfold gV at hV ⊢
    rw [e 2 (by unfold Pc; omega), e 3 (by unfold Pc; omega), e 4 (by unfold Pc; omega), e 9 (by unfold Pc; omega), e 15 (by unfold Pc; omega), e 16 (by unfold Pc; omega), e 19 (by unfold Pc; omega), e 21 (by unfold Pc; omega)]
    exact hV
  · rw [e 0 (by unfold Pc; omega)]; exact hd
  · rw [e 7 (by unfold Pc; omega)]; exact h7
  · rw [e 17 (by unfold Pc; omega)]; exact hg
  · rw [e (50 + i) (by unfold Pc; omega), e (50 + j) (by unfold Pc; omega)]
    exact htl i j hi hj
  · rw [e 11 (by unfold Pc; omega)]; exact h11
theorem I1.sc {μ μ' : gM} {cnt lc wc : Nat} (h : I1 μ cnt lc wc) (s : Sc cnt μ μ') : I1 μ' cnt lc wc := h.pe s.pe s.2
theorem I1.c60 {μ : gM} {cnt lc wc : Nat} (h : I1 μ cnt lc wc) : cnt ≤ 60 := h.1.1
section PEQ
variable {μ ν : gM} {cnt lc wc : Nat}
theorem PE.stand (h : PE μ ν) (i : Nat) (z : Int32) : fStand ν i z = fStand μ i z := by
  unfold fStand
  rw [h 11 (by unfold Pc; omega), h 10 (by unfold Pc; omega), h 9 (by unfold Pc; omega), h 7 (by unfold Pc; omega)]
theorem PE.join (h : PE μ ν) {i j : Nat} (hi : i < 60) : fJoin ν i j = fJoin μ i j := by
  unfold fJoin
  rw [h (50 + i) (by unfold Pc; omega), h 26 (by unfold Pc; omega), h 27 (by unfold Pc; omega), h 28 (by unfold Pc; omega)]
theorem PE.things (h : PE μ ν) (hn : cnt ≤ 60) (z : Int32) : tT ν cnt z = tT μ cnt z := tT_cong hn (fun k => h.stand k z) (fun i j hi _ => h.join hi)
theorem PE.pl (h : PE μ ν) : fPl ν = fPl μ := by
  unfold fPl
  rw [h 8 (by unfold Pc; omega), h 9 (by unfold Pc; omega)]
theorem PE.at29 (h : PE μ ν) {a : Nat} (ha : a < 2) : ν (29 + a) = μ (29 + a) := h (29 + a) (by unfold Pc; omega)
theorem PE.at26 (h : PE μ ν) {a : Nat} (ha : a < 3) : ν (26 + a) = μ (26 + a) := h (26 + a) (by unfold Pc; omega)
end PEQ
section SCQ
variable {μ0 μ : gM} {cnt lc wc : Nat}
theorem Sc.sort (S : Sc cnt μ0 μ) (hn : cnt ≤ 60) (z : Int32) : fSort μ cnt z (μ 23) = tT μ0 cnt z := by
  rw [tT_eq (fun k hk => (S.2 k hk).1)]
  exact S.pe.things hn z
theorem Sc.sort2 (S : Sc cnt μ0 μ) (hn : cnt ≤ 60) (z : Int32) : fSort μ cnt z (μ 24) = tT μ0 cnt z := by
  rw [tT_eq (fun k hk => (S.2 k hk).2)]
  exact S.pe.things hn z
theorem Sc.s23 (S : Sc cnt μ0 μ) {r : Nat → Int32} (h : ∀ k, cnt ≤ k → r k = 0) : Sc cnt μ0 (gR μ 23 r) := ⟨fun k a b c => (gR_n b).trans (S.1 k a b c), fun k hk => ⟨h k hk, (S.2 k hk).2⟩⟩
theorem Sc.s24 (S : Sc cnt μ0 μ) {r : Nat → Int32} (h : ∀ k, cnt ≤ k → r k = 0) : Sc cnt μ0 (gR μ 24 r) := ⟨fun k a b c => (gR_n c).trans (S.1 k a b c), fun k hk => ⟨(S.2 k hk).1, h k hk⟩⟩
theorem Sc.s18 (S : Sc cnt μ0 μ) {r : Nat → Int32} : Sc cnt μ0 (gR μ 18 r) := ⟨fun k a b c => (gR_n a).trans (S.1 k a b c), fun k hk => S.2 k hk⟩
theorem tT_z {z : Int32} : ∀ k, cnt ≤ k → tT μ0 cnt z k = 0 := fun _ hk => tT_out hk
end SCQ
/-! what fails -/
/-- what fails with thing q on day z -/
def gFm (μ : gM) (n lc : Nat) (z : Int32) (q : Nat) : Nat → Bool := fun k => !decide (fRun (tT μ n z) (μ 15) (μ 16) (μ 17) lc 60 (upd zr q 1) true k = 0)
theorem fl_one {S fr to gp : Nat → Int32} {lc n q : Nat} (F : FH S fr to gp lc n) (hq : q < 60) {f f' : Nat → Int32} (a2 : ∀ j, j < 60 → ¬ f j = 0 → j = q) (b1 : ¬ f' q = 0) {k : Nat} (hk : k < 60) (h : ¬ fRun S fr to gp lc 60 f true k = 0) : ¬ fRun S fr to gp lc 60 f' true k = 0 := by
  have hc : 1 ≤ cF 60 f' := cB_pos hq (by rw [decide_eq_false b1]; rfl)
  have C' := fRun_Cl F hq b1 (by omega)
  exact fRun_in F C' 60 f true (fun j hj h9 => by rw [a2 j hj h9]; exact C'.1) k hk h
theorem upd_one {f : Nat → Int32} {q : Nat} (h : ∀ j, j < 60 → f j = 0) : (∀ j, j < 60 → ¬ upd f q 1 j = 0 → j = q) ∧ ¬ upd f q 1 q = 0 := by
  refine ⟨fun j hj h9 => ?_, by rw [upd_s]; decide⟩
  by_cases e : j = q
  · exact e
  · rw [upd_n e] at h9
    exact absurd (h j hj) h9
section FM
variable {μ : gM} {cnt lc wc : Nat} {z : Int32}
theorem I1.fh (I : I1 μ cnt lc wc) (z : Int32) : FH (tT μ cnt z) (μ 15) (μ 16) (μ 17) lc cnt := ⟨I.1.1, tT_ok I.1.1, tT_R I.1.1, I.1.2.2.2.2.2.2.2.2.2.1, I.2.2.2.2.1⟩
theorem I1.fail (I : I1 μ cnt lc wc) {q k : Nat} (hq : q < 60) (hk : k < 60) {r : Nat → Int32} : (!decide (fRun (tT μ cnt z) (μ 15) (μ 16) (μ 17) lc 60 (upd (zRow 60 r) q 1) true k = 0)) = gFm μ cnt lc z q k := by
  obtain ⟨a1, a2⟩ := upd_one (f := zRow 60 r) (q := q) (fun j hj => if_pos hj)
  obtain ⟨b1, b2⟩ := upd_one (f := zr) (q := q) (fun _ _ => rfl)
  unfold gFm
  rw [Bool.eq_iff_iff, Bool.not_eq_true', Bool.not_eq_true', decide_eq_false_iff_not, decide_eq_false_iff_not]
  exact ⟨fl_one (I.fh z) hq a1 b2 hk, fl_one (I.fh z) hq b1 a2 hk⟩
theorem I1.f_in (I : I1 μ cnt lc wc) {q : Nat} {P : Nat → Prop} (hc : Cl (tT μ cnt z) (μ 15) (μ 16) (μ 17) lc q P) {k : Nat} (hk : k < 60) (h : gFm μ cnt lc z q k = true) : P k := by
  unfold gFm at h
  rw [Bool.not_eq_true', decide_eq_false_iff_not] at h
  exact fRun_in (I.fh z) hc 60 _ true (fun j hj h9 => by rw [(upd_one (f := zr) (fun _ _ => rfl)).1 j hj h9]; exact hc.1) k hk h
theorem I1.f_cl (I : I1 μ cnt lc wc) {q : Nat} (hq : q < 60) : Cl (tT μ cnt z) (μ 15) (μ 16) (μ 17) lc q (fun k => gFm μ cnt lc z q k = true) := by
  have b := upd_one (f := zr) (q := q) (fun _ _ => rfl)
  have hc : 1 ≤ cF 60 (upd zr q 1) := cB_pos hq (by rw [decide_eq_false b.2]; rfl)
  have C := fRun_Cl (I.fh z) hq b.2 (by omega)
  have e : (fun k => gFm μ cnt lc z q k = true) = fun k => ¬ fRun (tT μ cnt z) (μ 15) (μ 16) (μ 17) lc 60 (upd zr q 1) true k = 0 := by
    funext k
    unfold gFm
    rw [Bool.not_eq_true', decide_eq_false_iff_not]
  rw [e]
  exact C
theorem I1.f_self (I : I1 μ cnt lc wc) {q : Nat} (hq : q < 60) : gFm μ cnt lc z q q = true := (I.f_cl hq).1
/-- only things fail -/
theorem I1.f_root (I : I1 μ cnt lc wc) {q k : Nat} (hq : q < cnt) (hT : tT μ cnt z q = nI q) (hk : k < 60) (h : gFm μ cnt lc z q k = true) : k < cnt ∧ tT μ cnt z k = nI k := by
  refine I.f_in (P := fun k => k < cnt ∧ tT μ cnt z k = nI k) ⟨⟨hq, hT⟩, fun x hx hr => ?_⟩ hk h
  obtain ⟨y, ⟨i, hi, ho⟩, -⟩ := hr
  have h1 := (isOf_iff.mp ho).1
  have h2 := ((I.fh z).2.2.2.1 i hi).1
  have h3 := tT_R I.1.1 _ x h2 hx h1
  refine ⟨?_, h3⟩
  rcases tT_ok (μ := μ) (z := z) I.1.1 _ h2 with q1 | ⟨a, q1, q2⟩
  · rw [h1] at q1; exact absurd q1 (nI_nm (by omega))
  · have := I.1.1
    have e : a = x := (nI_eq (by omega) (by omega)).mp (q2.symm.trans h1)
    omega
/-- what fails with a thing that fails with q fails with q -/
theorem I1.f_sub (I : I1 μ cnt lc wc) {q a k : Nat} (hq : q < 60) (ha : gFm μ cnt lc z q a = true) (hk : k < 60) (h : gFm μ cnt lc z a k = true) : gFm μ cnt lc z q k = true :=
  I.f_in (q := a) (P := fun k => gFm μ cnt lc z q k = true) ⟨ha, (I.f_cl hq).2⟩ hk h
theorem PE.fm {ν : gM} (h : PE μ ν) (hn : cnt ≤ 60) (q : Nat) : gFm ν cnt lc z q = gFm μ cnt lc z q := by
  unfold gFm
  rw [h.things hn z, h 15 (by unfold Pc; omega), h 16 (by unfold Pc; omega), h 17 (by unfold Pc; omega)]
end FM
