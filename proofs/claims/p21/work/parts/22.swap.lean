/-! the two registers change places -/
def gSw (g : gC) : gC := (g.1, fun k => g.2.1 (gs k), g.2.2.1, g.2.2.2)
def sw (μ : gM) : gM := fun k => μ (gs k)
theorem sw_sw (μ : gM) : sw (sw μ) = μ := funext fun k => congrArg μ (gs_gs k)
theorem gSw_gSw (g : gC) : gSw (gSw g) = g := by
  obtain ⟨a, f, c, d⟩ := g
  show (a, (fun k => f (gs (gs k))), c, d) = (a, f, c, d)
  rw [show (fun k => f (gs (gs k))) = f from funext fun k => congrArg f (gs_gs k)]
theorem gE_swA {g : gC} {r : Nat → Int32} : ∀ k, k < 50 → gE (gSw g) r k = gE g r (gs k) := by
  intro k hk
  match k, hk with
  | 0, _ => rfl
  | 1, _ => rfl
  | 2, _ => rfl
  | 3, _ => rfl
  | 4, _ => rfl
  | 5, _ => rfl
  | 6, _ => rfl
  | 7, _ => rfl
  | 8, _ => rfl
  | 9, _ => rfl
  | 10, _ => rfl
  | 11, _ => rfl
  | 12, _ => rfl
  | 13, _ => rfl
  | 14, _ => rfl
  | 15, _ => rfl
  | 16, _ => rfl
  | 17, _ => rfl
  | 18, _ => rfl
  | 19, _ => rfl
  | 20, _ => rfl
  | 21, _ => rfl
  | 22, _ => rfl
  | 23, _ => rfl
  | 24, _ => rfl
  | 25, _ => rfl
  | 26, _ => rfl
  | 27, _ => rfl
  | 28, _ => rfl
  | 29, _ => rfl
  | 30, _ => rfl
  | 31, _ => rfl
  | 32, _ => rfl
  | 33, _ => rfl
  | 34, _ => rfl
  | 35, _ => rfl
  | 36, _ => rfl
  | 37, _ => rfl
  | 38, _ => rfl
  | 39, _ => rfl
  | 40, _ => rfl
  | 41, _ => rfl
  | 42, _ => rfl
  | 43, _ =>
    show (.inl (g.2.2.1 4, 3, .inr (.inr (.inr (.inr (fun i => some (g.2.1 (gs (gs (26 + i)))))))) ) : va_E) = .inl (g.2.2.1 4, 3, .inr (.inr (.inr (.inr (fun i => some (g.2.1 (26 + i)))))))
    simp only [gs_gs]
  | 44, _ =>
    show (.inl (g.2.2.1 4, 2, .inr (.inr (.inr (.inr (fun i => some (g.2.1 (gs (gs (29 + i)))))))) ) : va_E) = .inl (g.2.2.1 4, 2, .inr (.inr (.inr (.inr (fun i => some (g.2.1 (29 + i)))))))
    simp only [gs_gs]
  | 45, _ =>
    show (.inl (g.2.2.1 4, 60, .inr (.inr (.inr (.inr (fun i => some (g.2.1 (gs (gs (50 + i)))))))) ) : va_E) = .inl (g.2.2.1 4, 60, .inr (.inr (.inr (.inr (fun i => some (g.2.1 (50 + i)))))))
    simp only [gs_gs]
  | 46, _ => rfl
  | 47, _ => rfl
  | 48, _ => rfl
  | 49, _ => rfl
  | k + 50, hk => exact absurd hk (by omega)
theorem gE_swB {g : gC} {r : Nat → Int32} : ∀ k, k < 11 → gE (gSw g) r (110 + k) = gE g r (gs (110 + k)) := by
  intro k hk
  match k, hk with
  | 0, _ => rfl
  | 1, _ => rfl
  | 2, _ => rfl
  | 3, _ => rfl
  | 4, _ => rfl
  | 5, _ => rfl
  | 6, _ => rfl
  | 7, _ => rfl
  | 8, _ => rfl
  | 9, _ => rfl
  | 10, _ => rfl
  | k + 11, hk => exact absurd hk (by omega)
theorem gE_far {g : gC} {r : Nat → Int32} {k : Nat} (h1 : 50 ≤ k) (h2 : ¬ (110 ≤ k ∧ k < 114)) : gE g r k = .inl (g.2.2.1 0, 60, .inl r) := by
  unfold gE
  rw [if_neg h2, List.getD_eq_getElem?_getD, List.getElem?_eq_none (show (gL g r).length ≤ k from h1)]
  rfl
theorem gE_sw {g : gC} {r : Nat → Int32} {k : Nat} (h : k < 181) : gE (gSw g) r k = gE g r (gs k) := by
  by_cases h1 : k < 50
  · exact gE_swA k h1
  · by_cases h2 : 110 ≤ k ∧ k < 121
    · have e : k = 110 + (k - 110) := by omega
      rw [e]
      exact gE_swB (k - 110) (by omega)
    · have h3 : 50 ≤ gs k ∧ ¬ (110 ≤ gs k ∧ gs k < 114) := by
        unfold gs
        repeat' split
        all_goals omega
      rw [gE_far (by omega) (by omega), gE_far h3.1 h3.2]
      rfl
theorem gI_sw {g : gC} {μ : gM} {H : Heap} (h : gI g μ H) : gI (gSw g) (sw μ) H := by
  intro k q hq
  obtain ⟨hk, rfl⟩ := gW_of hq
  have h1 := h (gs k) _ (gW_at (gs_lt hk))
  rw [show gE (gSw g) (sw μ k) k = gE g (μ (gs k)) (gs k) from gE_sw hk]
  exact h1
theorem gD_sw {g : gC} (h : gD g) : gD (gSw g) := ⟨fun i j hi hj e => by
  have h1 := h.1 (gs i) (gs j) (gs_lt hi) (gs_lt hj) e
  rw [← gs_gs i, h1, gs_gs], fun k hk => h.2 (gs k) (gs_lt hk)⟩
theorem gX_sw {g : gC} {U : State} (h : gX g U) : gX (gSw g) U := ⟨h.1, gD_sw h.2.1, h.2.2⟩
section GSW
variable {p : Program} {l : Launch} {e : Env} {R : Room} {s : State} {m : MethodId} {args : Array Value} {below : List Frame} {meth : Method} {c : Code} {Q : State → Prop} {g : gC} {nL : Nat} {μ : gM} {k n : Nat} {cc : ByteArray} {Ts : List Cond} {own : String} {pc : Nat} {L : List (Nat × Value)} {st : List Value}
theorem gF_sw (Z : gF p l e R s m args below meth c cc nL Ts own g) : gF p l e R s m args below meth c cc nL Ts own (gSw g) := ⟨Z.1, Z.2.1, Z.2.2.1, Z.2.2.2.1, Z.2.2.2.2.1, gX_sw Z.2.2.2.2.2.1, Z.2.2.2.2.2.2⟩
/-- the second register is looked at as the first -/
theorem j_sw (K : J p l e R s m args below meth c Q (gSw g) nL (sw μ) k n pc L st) : J p l e R s m args below meth c Q g nL μ k n pc L st := fun H locs ls hI hS hl => K H locs ls (gI_sw hI) hS hl
/-- .. and back -/
theorem j_bk (K : J p l e R s m args below meth c Q g nL (sw μ) k n pc L st) : J p l e R s m args below meth c Q (gSw g) nL μ k n pc L st := fun H locs ls hI hS hl => K H locs ls (by have h := gI_sw hI; rw [gSw_gSw] at h; exact h) hS hl
end GSW
