/-! more pure words, of the laid wall and of refused numbers -/
def plI (w : Nat) (z : Int32) : Bool := wiI z (nI 0) (nI (2 ^ w - 1)) && decide (z - z / nI 2 * nI 2 = 0)
theorem plI_n {w k : Nat} (h : k < 2 ^ w) (h2 : k % 2 = 0) (hw : w ≤ 10) : plI w (nI k) = true := by
  have pw : 2 ^ w ≤ 2 ^ 10 := Nat.pow_le_pow_right (by decide) hw
  have pw0 : 2 ^ w ≤ 1024 := pw
  unfold plI
  rw [wiN (by omega) (by omega) (by omega), nI_rem (by omega) (by omega) (by omega), h2]
  decide
theorem va_up_id {α : Type} (f : Nat → α) (k : Nat) : va_up f k (f k) = f := by
  funext i
  unfold va_up
  split
  · next h => rw [h]
  · rfl
theorem pI_w {q : Option Nat} (hq : ∀ k, q = some k → k ≤ 99) (h : ¬ pI q = -9) : wiI (pI q) (nI 0) (nI 99) = true := by
  cases q with
  | none => exact absurd rfl h
  | some k => exact wiN (by omega) (hq k rfl) (by omega)
def lrF (pr : Nat → Option Nat) (w lap : Nat) (op mu ba la en : Nat → Nat) (ci : Nat) : Nat :=
  if ruF pr w (op ci) (bl op ci) (mu ci) (ba ci) (en (ci % 2 * 2)) (en (ci % 2 * 2 + 1)) (la ci) = 0 then (if decide (0 < ci) && decide (arG (la (ci - 1)) lap &&& la ci ≠ 0) then 7 else 0)
  else ruF pr w (op ci) (bl op ci) (mu ci) (ba ci) (en (ci % 2 * 2)) (en (ci % 2 * 2 + 1)) (la ci)
section LR
variable {pr : Nat → Option Nat} {w lap : Nat} {op mu ba la en : Nat → Nat} {ci : Nat}
theorem lrF_le : lrF pr w lap op mu ba la en ci ≤ 7 := by
  unfold lrF
  have := ruF_le (pr := pr) (w := w) (o := op ci) (b := bl op ci) (mu := mu ci) (ba := ba ci) (e0 := en (ci % 2 * 2)) (e1 := en (ci % 2 * 2 + 1)) (j := la ci)
  split
  · split <;> omega
  · omega
theorem lrF_1 (h : ¬ ruF pr w (op ci) (bl op ci) (mu ci) (ba ci) (en (ci % 2 * 2)) (en (ci % 2 * 2 + 1)) (la ci) = 0) : nI (ruF pr w (op ci) (bl op ci) (mu ci) (ba ci) (en (ci % 2 * 2)) (en (ci % 2 * 2 + 1)) (la ci)) = nI (lrF pr w lap op mu ba la en ci) := by
  unfold lrF; rw [if_neg h]
theorem lrF_2 (h : ruF pr w (op ci) (bl op ci) (mu ci) (ba ci) (en (ci % 2 * 2)) (en (ci % 2 * 2 + 1)) (la ci) = 0) (h2 : (decide (0 < ci) && decide (arG (la (ci - 1)) lap &&& la ci ≠ 0)) = true) : nI 7 = nI (lrF pr w lap op mu ba la en ci) := by
  unfold lrF; rw [if_pos h, if_pos h2]
theorem lrF_3 (h : ruF pr w (op ci) (bl op ci) (mu ci) (ba ci) (en (ci % 2 * 2)) (en (ci % 2 * 2 + 1)) (la ci) = 0) (h2 : (decide (0 < ci) && decide (arG (la (ci - 1)) lap &&& la ci ≠ 0)) = false) : nI 0 = nI (lrF pr w lap op mu ba la en ci) := by
  unfold lrF; rw [if_pos h, if_neg (by rw [h2]; decide)]
end LR
def wrG (f g : Nat → Nat) : Nat → Nat → Int32
  | 0, _ => -9
  | d + 1, k => if f k = 0 then wrG f g d (k + 1) else nI (g k)
theorem wrG_s {f g : Nat → Nat} {n k : Nat} (h : k < n) (h0 : f k = 0) : wrG f g (n - k) k = wrG f g (n - (k + 1)) (k + 1) := by
  rw [show n - k = (n - (k + 1)) + 1 by omega]
  conv => lhs; unfold wrG
  rw [if_pos h0]
theorem wrG_t {f g : Nat → Nat} {n k : Nat} (h : k < n) (h0 : ¬ f k = 0) : wrG f g (n - k) k = nI (g k) := by
  rw [show n - k = (n - (k + 1)) + 1 by omega]
  unfold wrG
  rw [if_neg h0]
theorem lp_le {w n : Nat} {op la : Nat → Nat} {L : Nat} (hw : w ≤ 10) (hn : n ≤ 8) : sumN (fun q => pcF w (op q) (la q) L) n ≤ 80 := by
  have := sumN_le (f := fun q => pcF w (op q) (la q) L) (b := 10) (fun k => pcF_le hw _ _ _) n
  omega
def ctF (p1 p2 p3 p4 : Nat) : Nat := p4 + p3 + (p2 + 1) / 2 + (p1 - p3 - 2 * (p2 % 2) + 3) / 4
theorem sub_ti {a b : Nat} (ha : a < 2 ^ 30) (hb : b < 2 ^ 30) : (nI a - nI b).toInt = (a : Int) - b := pk_sub_toInt ha hb
theorem sub_ge1 {a b : Nat} (ha : a < 2 ^ 30) (hb : b < 2 ^ 30) (h : 0 ≤ nI a - nI b) : b ≤ a := by
  rw [Int32.le_iff_toInt_le, sub_ti ha hb, Int32.toInt_zero] at h
  omega
theorem sub_lt1 {a b : Nat} (ha : a < 2 ^ 30) (hb : b < 2 ^ 30) (h : ¬ 0 ≤ nI a - nI b) : a < b := by
  rw [Int32.le_iff_toInt_le, sub_ti ha hb, Int32.toInt_zero] at h
  omega
theorem sub_le0 {a b : Nat} (ha : a < 2 ^ 30) (hb : b < 2 ^ 30) (h : nI a - nI b ≤ 0) : a ≤ b := by
  rw [Int32.le_iff_toInt_le, sub_ti ha hb, Int32.toInt_zero] at h
  omega
theorem sub_gt0 {a b : Nat} (ha : a < 2 ^ 30) (hb : b < 2 ^ 30) (h : ¬ nI a - nI b ≤ 0) : b < a := by
  rw [Int32.le_iff_toInt_le, sub_ti ha hb, Int32.toInt_zero] at h
  omega
