/-! the reference's pure words -/
theorem inB_f3 {x lo hi : Int32} (h1 : hi < x) : inB x lo hi = false := inB_f2 (Int32.not_le.mpr h1)
theorem inB_t3 {x lo hi : Int32} (h1 : ¬ x < lo) (h2 : ¬ hi < x) : inB x lo hi = true := inB_t h1 (Int32.not_lt.mp h2)
theorem inB_cnt {n : Nat} {x : Int32} (hn : n ≤ 60) : inB x 0 (nI n - 1) = fndB n x := by
  have e : (nI n - 1).toInt = (n : Int) - 1 := by
    rcases n with _ | n
    · decide
    · rw [nI_pred, nI_toInt (by omega)]; omega
  unfold inB fndB
  congr 1
  apply decide_eq_decide.mpr
  rw [Int32.le_iff_toInt_le, Int32.lt_iff_toInt_lt, e, nI_toInt (by omega)]
  omega
theorem nI_dn {t p : Nat} (h : t < p) : nI (p - t) + (-1) = nI (p - (t + 1)) := by
  rw [sb_m1 (by omega)]
  congr 1
theorem nI_le0 {n : Nat} (hn : n < 2 ^ 31) (h : nI n ≤ 0) : n = 0 := by
  rw [Int32.le_iff_toInt_le, nI_toInt hn] at h
  have h0 : (0 : Int32).toInt = 0 := by decide
  omega
theorem ge_m1 {x : Int32} (h : -1 ≤ x) : x < 0 ↔ x = -1 := by
  constructor
  · intro h2
    rw [Int32.le_iff_toInt_le] at h
    rw [Int32.lt_iff_toInt_lt] at h2
    have e : (-1 : Int32).toInt = -1 := by decide
    have e0 : (0 : Int32).toInt = 0 := by decide
    exact Int32.toInt_inj.mp (by omega)
  · intro h2
    rw [h2]; decide
theorem nI_nneg {j : Nat} (h : j < 2 ^ 31) : ¬ nI j < 0 := nI_pos h
theorem th_neg {n k : Nat} {th : Nat → Int32} (h : thOk n th) (hn : n ≤ 60) (hk : k < n) : th k < 0 ↔ th k = -1 := by
  rcases h k hk with h1 | ⟨j, h1, h2⟩
  · rw [h1]; decide
  · rw [h2]
    exact ⟨fun q => absurd q (nI_pos (by omega)), fun q => absurd q (nI_nm (by omega))⟩
theorem iMax_c (x y : Int32) : iMax x y = iMax y x := by
  unfold iMax
  by_cases h : x < y
  · rw [if_pos h, if_neg (fun q => Int32.lt_irrefl (Int32.lt_trans h q))]
  · rw [if_neg h]
    by_cases h2 : y < x
    · rw [if_pos h2]
    · rw [if_neg h2]
      exact Int32.le_antisymm (Int32.not_lt.mp h2) (Int32.not_lt.mp h)
theorem iMin_c (x y : Int32) : iMin x y = iMin y x := by
  unfold iMin
  by_cases h : y < x
  · rw [if_pos h, if_neg (fun q => Int32.lt_irrefl (Int32.lt_trans h q))]
  · rw [if_neg h]
    by_cases h2 : x < y
    · rw [if_pos h2]
    · rw [if_neg h2]
      exact Int32.le_antisymm (Int32.not_lt.mp h) (Int32.not_lt.mp h2)
theorem sMerge_c {n : Nat} {x y : Int32} {th : Nat → Int32} : sMerge n x y th = sMerge n y x th := by
  unfold sMerge
  rw [iMax_c x y, iMin_c x y]
/-- two finds are the same by what is known of both -/
def mJoin (μ : gM) (e f : Nat) : Bool := joinB (μ 39 (60 * f + e)) (μ 36 (3 * f)) (μ 36 (3 * e)) (μ 36 (3 * f + 1)) (μ 36 (3 * e + 1)) (μ 36 (3 * f + 2)) (μ 36 (3 * e + 2))
def mStand (μ : gM) (i : Nat) (d : Int32) : Bool := standB (μ 38 i) (μ 35 i) d (μ 32 (ix (μ 34 i)))
def mSort (μ : gM) (n : Nat) (x : Int32) (th : Nat → Int32) : Nat → Int32 := sAll n (mJoin μ) (fun k => mStand μ k x) th
theorem mJoin_R {μ : gM} {t e f : Nat} {r : Nat → Int32} (h : t = 47 ∨ t = 48 ∨ t = 49) : mJoin (gR μ t r) e f = mJoin μ e f := by
  unfold mJoin
  rw [gR_n (k := t) (j := 39) (by omega), gR_n (k := t) (j := 36) (by omega)]
theorem mStand_R {μ : gM} {t i : Nat} {x : Int32} {r : Nat → Int32} (h : t = 47 ∨ t = 48 ∨ t = 49) : mStand (gR μ t r) i x = mStand μ i x := by
  unfold mStand
  rw [gR_n (k := t) (j := 38) (by omega), gR_n (k := t) (j := 35) (by omega), gR_n (k := t) (j := 34) (by omega), gR_n (k := t) (j := 32) (by omega)]
theorem mStand_U {μ : gM} {i : Nat} {x v : Int32} : mStand (gU μ 31 0 v) i x = mStand μ i x := rfl
theorem mJoin_U {μ : gM} {e f : Nat} {v : Int32} : mJoin (gU μ 31 0 v) e f = mJoin μ e f := rfl
theorem mSort_U {μ : gM} {n : Nat} {x v : Int32} {th : Nat → Int32} : mSort (gU μ 31 0 v) n x th = mSort μ n x th := rfl
theorem mSort_ok {μ : gM} {n : Nat} {x : Int32} {th : Nat → Int32} (hn : n ≤ 60) : thOk n (mSort μ n x th) := sAll_ok hn
theorem mS_ok {μ : gM} {n : Nat} {x : Int32} {th S : Nat → Int32} (hS : mSort μ n x th = S) (hn : n ≤ 60) : thOk n S := by
  subst hS
  exact mSort_ok hn
theorem mSort_R {μ : gM} {t n : Nat} {x : Int32} {r th : Nat → Int32} (h : t = 47 ∨ t = 48 ∨ t = 49) : mSort (gR μ t r) n x th = mSort μ n x th := by
  unfold mSort
  rw [show mJoin (gR μ t r) = mJoin μ from funext fun _ => funext fun _ => mJoin_R h, show (fun k => mStand (gR μ t r) k x) = fun k => mStand μ k x from funext fun _ => mStand_R h]
/-- past the n-th nothing changes -/
theorem sMerge_out {n k : Nat} {x y : Int32} {th : Nat → Int32} (h : n ≤ k) : sMerge n x y th k = th k := if_neg (fun q => by omega)
theorem sStep_out {n f e k : Nat} {jn : Nat → Nat → Bool} {th : Nat → Int32} (h : n ≤ k) : sStep n jn f e th k = th k := by
  unfold sStep
  by_cases hc : ¬ th e = -1 ∧ ¬ th e = th f ∧ jn e f = true
  · rw [if_pos hc]; exact sMerge_out h
  · rw [if_neg hc]
theorem sIn_out {n f k : Nat} {jn : Nat → Nat → Bool} {th : Nat → Int32} (h : n ≤ k) : ∀ e : Nat, sIn n jn f th e k = th k
  | 0 => rfl
  | e + 1 => (sStep_out h).trans (sIn_out h e)
theorem sOut_out {n k : Nat} {jn : Nat → Nat → Bool} {th : Nat → Int32} (h : n ≤ k) : ∀ f : Nat, sOut n jn th f k = th k
  | 0 => rfl
  | f + 1 => by
    have h1 := sOut_out (jn := jn) (th := th) h f
    unfold sOut
    by_cases q : ¬ sOut n jn th f f = -1
    · rw [if_pos q]; exact (sIn_out h f).trans h1
    · rw [if_neg q]; exact h1
theorem s0_idem {n : Nat} {jn : Nat → Nat → Bool} {sb : Nat → Bool} {th : Nat → Int32} : s0 n sb (sAll n jn sb th) = s0 n sb th := by
  funext k
  unfold s0
  by_cases h : k < n
  · rw [if_pos h, if_pos h]
  · rw [if_neg h, if_neg h]
    have h1 : sAll n jn sb th k = s0 n sb th k := sOut_out (by omega) n
    rw [h1]
    exact if_neg h
theorem sAll_idem {n : Nat} {jn : Nat → Nat → Bool} {sb : Nat → Bool} {th : Nat → Int32} : sAll n jn sb (sAll n jn sb th) = sAll n jn sb th := by
  show sOut n jn (s0 n sb (sAll n jn sb th)) n = _
  rw [s0_idem]
  rfl
/-- the row of a find f that isn't counted stays -/
def sInC (n : Nat) (jn : Nat → Nat → Bool) (f : Nat) (th : Nat → Int32) (e : Nat) : Nat → Int32 := if ¬ th f = -1 then sIn n jn f th e else th
theorem sInC_0 {n f : Nat} {jn : Nat → Nat → Bool} {th : Nat → Int32} : th = sInC n jn f th 0 := by
  unfold sInC
  by_cases h : ¬ th f = -1
  · rw [if_pos h]; rfl
  · rw [if_neg h]
theorem sInC_ok {n f e : Nat} {jn : Nat → Nat → Bool} {th : Nat → Int32} (h : thOk n th) (hn : n ≤ 60) (hf : f < n) (he : e ≤ f) : thOk n (sInC n jn f th e) ∧ (sInC n jn f th e f = -1 ↔ th f = -1) := by
  unfold sInC
  by_cases q : ¬ th f = -1
  · rw [if_pos q]
    obtain ⟨h1, h2⟩ := sIn_ok (jn := jn) h hn hf q e he
    exact ⟨h1, fun q2 => absurd q2 h2, fun q2 => absurd q2 q⟩
  · rw [if_neg q]
    exact ⟨h, Iff.rfl⟩
theorem sInC_s {n f e : Nat} {jn : Nat → Nat → Bool} {th r : Nat → Int32} (er : r = sInC n jn f th e) (h : thOk n th) (hn : n ≤ 60) (hf : f < n) (he : e ≤ f) : sInC n jn f th (e + 1) = if ¬ r f = -1 ∧ ¬ r e = -1 ∧ ¬ r e = r f ∧ jn e f = true then sMerge n (r e) (r f) r else r := by
  have h2 := (sInC_ok (jn := jn) h hn hf he).2
  subst er
  by_cases q : ¬ th f = -1
  · have e1 : sInC n jn f th e = sIn n jn f th e := if_pos q
    have e2 : sInC n jn f th (e + 1) = sStep n jn f e (sIn n jn f th e) := if_pos q
    rw [e1] at h2
    rw [e1, e2]
    unfold sStep
    by_cases hc : ¬ sIn n jn f th e e = -1 ∧ ¬ sIn n jn f th e e = sIn n jn f th e f ∧ jn e f = true
    · rw [if_pos hc, if_pos ⟨fun q2 => q (h2.mp q2), hc⟩]
    · rw [if_neg hc, if_neg (fun q2 => hc q2.2)]
  · have e1 : sInC n jn f th e = th := if_neg q
    have e2 : sInC n jn f th (e + 1) = th := if_neg q
    rw [e1, e2, if_neg (fun q2 => q q2.1)]
/-- the rank of a find's source; the values told of attribute a -/
def mPl (μ : gM) (pl : Nat → Nat) (i : Nat) : Int32 := nI (pl (ix (μ 34 i)))
def mTl (μ : gM) (a : Nat) : Nat → Int32 := fun k => μ 37 (2 * k + a)
def mVal (μ : gM) (pl : Nat → Nat) (a n : Nat) (x : Int32) : Int32 := aVal (μ 47) (mTl μ a) (mPl μ pl) x n
/-- an unlike value is told of a thing -/
def dAny (th tl : Nat → Int32) (x own : Int32) : Nat → Bool
  | 0 => false
  | k + 1 => dAny th tl x own k || (decide (th k = x) && !decide (tl k < 0) && !decide (tl k = own))
/-- link i counts for thing x and group y -/
def isOfB (th fr to gp : Nat → Int32) (x y : Int32) (i : Nat) : Bool := decide (th (ix (fr i)) = x) && decide (gp i = y) && !decide (th (ix (to i)) < 0) && !decide (th (ix (to i)) = x)
def mAny (th fr to gp : Nat → Int32) (x y : Int32) : Nat → Bool
  | 0 => false
  | i + 1 => mAny th fr to gp x y i || isOfB th fr to gp x y i
def mAll (th fr to gp f : Nat → Int32) (x y : Int32) : Nat → Bool
  | 0 => true
  | i + 1 => mAll th fr to gp f x y i && (!isOfB th fr to gp x y i || !decide (f (ix (th (ix (to i)))) = 0))
/-- of the first groups one has all that is needed failed -/
def mFal (th fr to gp f : Nat → Int32) (lc : Nat) (x : Int32) : Nat → Bool
  | 0 => false
  | y + 1 => mFal th fr to gp f lc x y || (mAny th fr to gp x (nI y) lc && mAll th fr to gp f x (nI y) lc)
/-- thing k falls in a round -/
def spC (th fr to gp : Nat → Int32) (lc : Nat) (f : Nat → Int32) (k : Nat) : Bool := decide (th k = nI k) && decide (f k = 0) && mFal th fr to gp f lc (nI k) 4
def spN (th fr to gp : Nat → Int32) (lc : Nat) (f : Nat → Int32) : Nat → Nat → Int32
  | 0 => f
  | k + 1 => if spC th fr to gp lc (spN th fr to gp lc f k) k = true then upd (spN th fr to gp lc f k) k 1 else spN th fr to gp lc f k
def cF (n : Nat) (f : Nat → Int32) : Nat := cB (fun k => !decide (f k = 0)) n
theorem cF_le (n : Nat) (f : Nat → Int32) : cF n f ≤ n := cB_le _ n
theorem cB_cong {p q : Nat → Bool} : ∀ {n : Nat}, (∀ k, k < n → p k = q k) → cB p n = cB q n
  | 0, _ => rfl
  | n + 1, h => by
    show cB p n + _ = cB q n + _
    rw [cB_cong (fun k hk => h k (by omega)), h n (by omega)]
theorem cF_u {n k : Nat} {f : Nat → Int32} (hk : k < n) (h : f k = 0) : cF n (upd f k 1) = cF n f + 1 := by
  induction n with
  | zero => omega
  | succ n ih =>
    by_cases e : k = n
    · subst e
      have h1 : cB (fun j => !decide (upd f k 1 j = 0)) k = cB (fun j => !decide (f j = 0)) k := cB_cong (fun j hj => by rw [upd_n (by omega)])
      show cB (fun j => !decide (upd f k 1 j = 0)) k + (if (!decide (upd f k 1 k = 0)) = true then 1 else 0) = cB (fun j => !decide (f j = 0)) k + (if (!decide (f k = 0)) = true then 1 else 0) + 1
      rw [h1, upd_s, h]
      rfl
    · have h1 := ih (by omega)
      show cF n (upd f k 1) + (if (!decide (upd f k 1 n = 0)) = true then 1 else 0) = cF n f + (if (!decide (f n = 0)) = true then 1 else 0) + 1
      rw [h1, upd_n (fun q => e q.symm)]
      omega
/-- rounds while the count grows -/
def sRun (th fr to gp : Nat → Int32) (lc n : Nat) : Nat → (Nat → Int32) → Nat → Nat → Int32
  | 0, f, _ => f
  | m + 1, f, b => if b < cF n f then sRun th fr to gp lc n m (spN th fr to gp lc f n) (cF n f) else f
theorem sRun_f {th fr to gp f : Nat → Int32} {lc n m b : Nat} (h : ¬ b < cF n f) : sRun th fr to gp lc n m f b = f := by
  cases m with
  | zero => rfl
  | succ m => exact if_neg h
theorem sRun_t {th fr to gp f : Nat → Int32} {lc n m m' b : Nat} (h : b < cF n f) (hm : m = m' + 1) : sRun th fr to gp lc n m f b = sRun th fr to gp lc n m' (spN th fr to gp lc f n) (cF n f) := by
  subst hm
  exact if_pos h
theorem spN_le {th fr to gp f : Nat → Int32} {lc n : Nat} : ∀ k : Nat, k ≤ n → cF n f ≤ cF n (spN th fr to gp lc f k)
  | 0, _ => Nat.le_refl _
  | k + 1, h => by
    have h1 := spN_le (th := th) (fr := fr) (to := to) (gp := gp) (f := f) (lc := lc) (n := n) k (by omega)
    unfold spN
    by_cases q : spC th fr to gp lc (spN th fr to gp lc f k) k = true
    · rw [if_pos q]
      have h2 : spN th fr to gp lc f k k = 0 := by
        unfold spC at q
        rw [Bool.and_eq_true, Bool.and_eq_true, decide_eq_true_eq, decide_eq_true_eq] at q
        exact q.1.2
      rw [cF_u (by omega) h2]
      omega
    · rw [if_neg q]; exact h1
/-- thing x alone, of n -/
def oneR (n : Nat) (x : Int32) (f : Nat → Int32) : Nat → Int32 := fun k => if k < n then (if nI k = x then 1 else 0) else f k
theorem oneR_0 {x : Int32} {f : Nat → Int32} : f = oneR 0 x f := by
  funext k
  exact (if_neg (Nat.not_lt_zero k)).symm
theorem oneR_s {n : Nat} {x v : Int32} {f : Nat → Int32} (h : v = if nI n = x then 1 else 0) : upd (oneR n x f) n v = oneR (n + 1) x f := by
  subst h
  funext k
  by_cases hk : k = n
  · subst hk
    rw [upd_s]
    exact (if_pos (Nat.lt_succ_self k)).symm
  · rw [upd_n hk]
    unfold oneR
    by_cases h2 : k < n
    · rw [if_pos h2, if_pos (show k < n + 1 by omega)]
    · rw [if_neg h2, if_neg (show ¬ k < n + 1 by omega)]
theorem cF_one {n q : Nat} {f : Nat → Int32} (hn : n ≤ 60) (hq : q < n) : cF n (oneR n (nI q) f) = 1 := by
  have h1 : ∀ m : Nat, m ≤ n → cB (fun k => !decide (oneR n (nI q) f k = 0)) m = if q < m then 1 else 0 := by
    intro m
    induction m with
    | zero => intro _; rfl
    | succ m ih =>
      intro hm
      show cB _ m + (if (!decide (oneR n (nI q) f m = 0)) = true then 1 else 0) = _
      rw [ih (by omega)]
      have e : oneR n (nI q) f m = if nI m = nI q then 1 else 0 := if_pos (by omega)
      rw [e]
      by_cases hmq : m = q
      · subst hmq
        rw [if_pos rfl, if_neg (Nat.lt_irrefl m), if_pos (Nat.lt_succ_self m)]
        rfl
      · rw [if_neg (fun q2 => hmq ((nI_eq (by omega) (by omega)).mp q2))]
        by_cases h3 : q < m
        · rw [if_pos h3, if_pos (show q < m + 1 by omega)]; rfl
        · rw [if_neg h3, if_neg (show ¬ q < m + 1 by omega)]; rfl
  have h2 := h1 n (Nat.le_refl n)
  rw [if_pos hq] at h2
  exact h2
/-- what the reference lets fail with thing q -/
def mFail (μ : gM) (lc n q : Nat) : Nat → Int32 := sRun (μ 47) (μ 40) (μ 41) (μ 42) lc n 60 (oneR n (nI q) (μ 49)) 0
/-- the order with its place p put first -/
def oMv (p t : Nat) (o : Nat → Int32) : Nat → Int32 := fun j => if p - t < j ∧ j ≤ p then o (j - 1) else o j
theorem oMv_0 {p : Nat} {o : Nat → Int32} : o = oMv p 0 o := by
  funext j
  exact (if_neg (fun q => by omega)).symm
theorem oMv_at {p t : Nat} {o : Nat → Int32} (h : t < p) : oMv p t o (p - t - 1) = o (p - t - 1) := if_neg (fun q => by omega)
theorem oMv_s {p t : Nat} {o : Nat → Int32} (h : t < p) : upd (oMv p t o) (p - t) (o (p - t - 1)) = oMv p (t + 1) o := by
  funext j
  by_cases hj : j = p - t
  · subst hj
    rw [upd_s]
    exact (if_pos ⟨by omega, by omega⟩).symm
  · rw [upd_n hj]
    unfold oMv
    by_cases h2 : p - t < j ∧ j ≤ p
    · rw [if_pos h2, if_pos ⟨by omega, h2.2⟩]
    · rw [if_neg h2, if_neg (fun q => h2 ⟨by omega, q.2⟩)]
def k3_0 : Unit := ()
theorem k3_z {a b c : Bool} (h : k3 a b c = 0) : a = true ∧ b = true ∧ c = true := by
  unfold k3 at h
  cases a <;> cases b <;> cases c <;> revert h <;> decide
theorem dec_ne {v : Int32} (h : decide (¬ v = 0) = false) : v = 0 := by
  by_cases q : v = 0
  · exact q
  · rw [decide_eq_true q] at h; cases h
theorem dec_ne1 {v : Int32} (h : decide (¬ v = 0) = true) : ¬ v = 0 := of_decide_eq_true h
theorem k1_z {a : Bool} (h : k1 a = 0) : a = true := by
  unfold k1 at h
  cases a <;> revert h <;> decide
theorem k2_z {a b : Bool} (h : k2 a b = 0) : a = true ∧ b = true := by
  unfold k2 at h
  cases a <;> cases b <;> revert h <;> decide
/-- what holds of the reference's memory between calls: pl is where each source stands in the order -/
def mV (μ : gM) (cnt lc wc : Nat) (pl : Nat → Nat) : Prop := cnt ≤ 60 ∧ μ 31 4 = nI cnt ∧ lc ≤ 40 ∧ μ 31 11 = nI lc ∧ wc ≤ 20 ∧ μ 31 15 = nI wc ∧ (∀ k, vp_in (μ 34 k) 4) ∧ (∀ k, vp_in (μ 40 k) 60) ∧ (∀ k, vp_in (μ 41 k) 60) ∧ (∀ k, k < lc → ix (μ 40 k) < cnt ∧ ix (μ 41 k) < cnt) ∧ (∀ k, vp_in (μ 43 k) 3) ∧ (∀ k, vp_in (μ 45 k) 2) ∧ (∀ k, -1 ≤ μ 37 k) ∧ (∀ s, s < 4 → pl s < 4 ∧ μ 33 (pl s) = nI s ∧ ∀ j, j < pl s → ¬ μ 33 j = nI s) ∧ (∀ i j, i ≤ j → j < cnt → μ 35 i ≤ μ 35 j)
