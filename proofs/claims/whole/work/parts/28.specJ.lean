/-! the rows' costs; counting and weighing tables as the class has them -/
def hpl (i : Nat) : Nat := sumN (fun z => if 2 ^ z ≤ i then 1 else 0) 11
theorem sumN_le_one {a : Nat} : ∀ N, sumN (fun q => if q ≤ a then 1 else 0) N = min (a + 1) N
  | 0 => by rw [Nat.min_zero]; rfl
  | N + 1 => by
    show sumN _ N + (if N ≤ a then 1 else 0) = _
    rw [sumN_le_one N]
    split <;> omega
theorem hpl_e {i z : Nat} (h1 : 2 ^ z ≤ i) (h2 : i < 2 ^ (z + 1)) (hz : z < 11) : hpl i = z + 1 := by
  unfold hpl
  rw [sumN_congr (g := fun q => if q ≤ z then 1 else 0) 11 (fun q hq => ?_), sumN_le_one]
  · omega
  · by_cases e : q ≤ z
    · rw [if_pos e, if_pos (Nat.le_trans (Nat.pow_le_pow_right (by decide) e) h1)]
    · rw [if_neg e, if_neg]
      have := Nat.pow_le_pow_right (n := 2) (by decide) (show z + 1 ≤ q by omega)
      omega
theorem hpl_0 : hpl 0 = 0 := by decide
theorem fwF_0 : fwF 0 = 0 := by decide
theorem fwF_s (z : Nat) : fwF (z + 1) = 2 ^ z := by
  unfold fwF
  rw [Nat.shiftRight_eq_div_pow, Nat.pow_succ]
  omega
theorem hpl_fw {i lw : Nat} (h1 : fwF lw ≤ i) (h2 : i < fwF (lw + 1)) (hl : lw ≤ 10) : hpl i = lw := by
  cases lw with
  | zero =>
    have : i = 0 := by rw [fwF_s] at h2; omega
    rw [this, hpl_0]
  | succ z =>
    rw [fwF_s] at h1 h2
    exact hpl_e h1 h2 (by omega)
theorem fwF_mono {a b : Nat} (h : a ≤ b) : fwF a ≤ fwF b := by
  unfold fwF
  rw [Nat.shiftRight_eq_div_pow, Nat.shiftRight_eq_div_pow]
  exact Nat.div_le_div_right (Nat.pow_le_pow_right (by decide) h)
def slF (pr : Nat → Option Nat) (w o b e0 e1 i : Nat) : Nat := min 1000000 (sumN (cbT pr w o b e0 e1 (2 * i)) (hpl i))
def kpF (o mu ba j : Nat) : Bool := decide (j &&& (o ||| o <<< 1) = 0) && (decide (j &&& mu = mu) && decide (j &&& ba = 0))
def fcF (pr : Nat → Option Nat) (w o b mu ba e0 e1 i : Nat) : Nat := if kpF o mu ba (2 * i) then min 1000000 (sumN (cbT pr w o b e0 e1 (2 * i)) w) else 1000000
def COK (co : Nat → Nat → Nat) : Prop := ∀ c i, co c i ≤ 1000000
def COt (ci : Nat) (co t : Nat → Nat → Nat) : Prop := (∀ c, c ≠ ci → t c = co c) ∧ COK t
theorem COt_up {ci j v : Nat} {co t : Nat → Nat → Nat} (h : COt ci co t) (hv : v ≤ 1000000) : COt ci co (va_up t ci (va_up (t ci) j v)) := by
  refine ⟨fun c hc => by rw [upn hc, h.1 c hc], fun c i => ?_⟩
  by_cases e : c = ci
  · subst e
    rw [ups]
    unfold va_up
    split
    · exact hv
    · exact h.2 _ _
  · rw [upn e]; exact h.2 _ _
def fcC (w : Nat) (op mu ba en : Nat → Nat) (pr : Nat → Option Nat) (ci i : Nat) : Nat := fcF pr w (op ci) (bl op ci) (mu ci) (ba ci) (en (ci % 2 * 2)) (en (ci % 2 * 2 + 1)) i
/-- the table of costs is right for all courses -/
def CoOk (w n : Nat) (op mu ba en : Nat → Nat) (pr : Nat → Option Nat) (co : Nat → Nat → Nat) : Prop := ∀ c i, c < n → i < 2 ^ (w - 1) → co c i = fcC w op mu ba en pr c i
def apF (w i z : Nat) : Nat := ndf (2 ^ (w - 1) - 1) (arG i z)
theorem ndf_bit {a b y : Nat} : (ndf a b).testBit y = (a.testBit y && !b.testBit y) := by
  unfold ndf
  rw [Nat.testBit_xor, Nat.testBit_and]
  cases a.testBit y <;> cases b.testBit y <;> rfl
theorem apF_lt {w i z : Nat} (h : 2 ≤ w) : apF w i z < 2 ^ (w - 1) := by
  have p0 : 0 < 2 ^ (w - 1) := Nat.pow_pos (by decide)
  unfold apF ndf
  exact Nat.xor_lt_two_pow (by omega) (Nat.lt_of_le_of_lt Nat.and_le_left (by omega))
def flt (p : Nat → Bool) (N : Nat) : List Nat := (List.range N).filter p
theorem flt_t {p : Nat → Bool} {k : Nat} (h : p k = true) : (flt p k).length + 1 = (flt p (k + 1)).length := by
  unfold flt
  rw [List.range_succ, List.filter_append]
  simp [h]
theorem flt_f {p : Nat → Bool} {k : Nat} (h : p k = false) : (flt p k).length = (flt p (k + 1)).length := by
  unfold flt
  rw [List.range_succ, List.filter_append]
  simp [h]
theorem flt_at {p : Nat → Bool} {k : Nat} (h : p k = true) : ∀ {N : Nat}, k < N → (flt p k).length < (flt p N).length ∧ (flt p N).getD (flt p k).length 0 = k
  | 0, hN => absurd hN (Nat.not_lt_zero _)
  | N + 1, hN => by
    have e : flt p (N + 1) = flt p N ++ (if p N then [N] else []) := by
      unfold flt
      rw [List.range_succ, List.filter_append]
      simp only [List.filter_cons, List.filter_nil]
    by_cases e2 : k = N
    · subst e2
      rw [e, if_pos h]
      simp
    · obtain ⟨h1, h2⟩ := flt_at h (N := N) (by omega)
      rw [e]
      refine ⟨by rw [List.length_append]; omega, ?_⟩
      rw [List.getD_eq_getElem?_getD, List.getElem?_append_left h1, ← List.getD_eq_getElem?_getD]
      exact h2
def rwG (p : Nat → Bool) (N k : Nat) : Int32 := if k < (flt p N).length then nI (2 * (flt p N).getD k 0) else -9
theorem rwG_1 {p : Nat → Bool} {N k z : Nat} (hk : k < N) (h : p k = true) (hz : (flt p k).length = z) : nI (2 * k) = rwG p N z := by
  obtain ⟨h1, h2⟩ := flt_at h hk
  unfold rwG
  rw [← hz, if_pos h1, h2]
theorem rwG_0 {p : Nat → Bool} {N z : Nat} (h : (flt p N).length ≤ z) : (-9 : Int32) = rwG p N z := by
  unfold rwG
  rw [if_neg (by omega)]
section SL
variable {pr : Nat → Option Nat} {w o b mu ba e0 e1 i lw h : Nat} {t : Nat → Nat → Nat} {ci : Nat}
theorem sl_step (hi : hpl i = lw) (hlh : lw < h) (hh : h < w) (hw : w ≤ 10) (h2 : i < 2 ^ (h - 1)) : min 1000000 (slF pr w o b e0 e1 i + cbF pr w o b e0 e1 lw h) = slF pr w o b e0 e1 (i + 2 ^ (h - 1)) := by
  sorry
theorem fc_step (hi : hpl i = lw) (hlh : lw < w) (hw : w ≤ 10) (h2 : i < 2 ^ (w - 1)) : min 1000000 (slF pr w o b e0 e1 i + cbF pr w o b e0 e1 lw w) = min 1000000 (sumN (cbT pr w o b e0 e1 (2 * i)) w) := by
  sorry
theorem sl_0 {co : Nat → Nat → Nat} : ∀ i, i < 2 ^ (1 - 1) → va_up co ci (va_up (co ci) 0 0) ci i = slF pr w o b e0 e1 i := by
  intro i hi
  have e : i = 0 := by simpa using hi
  subst e
  rw [ups, ups]
  unfold slF
  rw [hpl_0]
  rfl
theorem sl_in (k1 : fwF lw ≤ i) (hi : i < fwF (lw + 1)) (k4 : t ci i = slF pr w o b e0 e1 i) (k5 : ∀ q, q < i → t ci (q + 2 ^ (h - 1)) = slF pr w o b e0 e1 (q + 2 ^ (h - 1))) (hlh : lw < h) (hwh : h < w ∧ w ≤ 10) (ef : fwF h = 2 ^ (h - 1)) :
    ∀ q, q < i + 1 → va_up t ci (va_up (t ci) (i + fwF h) (min 1000000 (t ci i + cbF pr w o b e0 e1 lw h))) ci (q + 2 ^ (h - 1)) = slF pr w o b e0 e1 (q + 2 ^ (h - 1)) := by
  intro q hq
  rw [ups, ef]
  by_cases e : q = i
  · subst e
    rw [ups, k4]
    have h3 := fwF_mono (show lw + 1 ≤ h by omega)
    exact sl_step (hpl_fw k1 hi (by omega)) hlh hwh.1 hwh.2 (by omega)
  · rw [upn (by omega)]
    exact k5 q (by omega)
theorem sl_hi {P : Nat → Prop} (h1 : 1 ≤ h) (j4 : ∀ i, i < 2 ^ (h - 1) → P i) (j5 : ∀ i, i < fwF lw → P (i + 2 ^ (h - 1))) (hl : lw = h) : ∀ i, i < 2 ^ (h + 1 - 1) → P i := by
  intro i hi
  subst hl
  have e : lw = (lw - 1) + 1 := by omega
  have ef : fwF lw = 2 ^ (lw - 1) := by conv => (lhs; rw [e, fwF_s])
  by_cases h2 : i < 2 ^ (lw - 1)
  · exact j4 i h2
  · have e3 : 2 ^ (lw + 1 - 1) = 2 * 2 ^ (lw - 1) := by
      rw [show lw + 1 - 1 = (lw - 1) + 1 by omega, Nat.pow_succ, Nat.mul_comm]
    have := j5 (i - 2 ^ (lw - 1)) (by omega)
    rw [show i - 2 ^ (lw - 1) + 2 ^ (lw - 1) = i by omega] at this
    exact this
theorem fc_in1 (k1 : fwF lw ≤ i) (hi : i < fwF (lw + 1)) (k4 : ∀ q, q < i → t ci q = fcF pr w o b mu ba e0 e1 q) (k5 : t ci i = slF pr w o b e0 e1 i) (hlh : lw < w) (hw : w ≤ 10) (hk : kpF o mu ba (2 * i) = true) :
    ∀ q, q < i + 1 → va_up t ci (va_up (t ci) i (min 1000000 (t ci i + cbF pr w o b e0 e1 lw w))) ci q = fcF pr w o b mu ba e0 e1 q := by
  intro q hq
  rw [ups]
  by_cases e : q = i
  · subst e
    rw [ups, k5]
    have h3 : fwF (lw + 1) ≤ 2 ^ (w - 1) := by rw [fwF_s]; exact Nat.pow_le_pow_right (by decide) (by omega)
    rw [fc_step (hpl_fw k1 hi (by omega)) hlh hw (by omega)]
    unfold fcF
    rw [hk]
    rfl
  · rw [upn (by omega)]
    exact k4 q (by omega)
theorem fc_in0 (k1 : fwF lw ≤ i) (hi : i < fwF (lw + 1)) (k4 : ∀ q, q < i → t ci q = fcF pr w o b mu ba e0 e1 q) (k5 : t ci i = slF pr w o b e0 e1 i) (hlh : lw < w) (hw : w ≤ 10) (hk : kpF o mu ba (2 * i) = false) :
    ∀ q, q < i + 1 → va_up t ci (va_up (t ci) i 1000000) ci q = fcF pr w o b mu ba e0 e1 q := by
  intro q hq
  rw [ups]
  by_cases e : q = i
  · subst e
    rw [ups]
    unfold fcF
    rw [hk]
    rfl
  · rw [upn (by omega)]
    exact k4 q (by omega)
end SL
