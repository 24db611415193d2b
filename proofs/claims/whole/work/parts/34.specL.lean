/-! the class's tables as one bundle; what the answers rest on -/
abbrev CSc : Type := Bool × (Nat → Nat → Nat) × (Nat → Int64) × (Nat → Int64) × Nat × Int64 × Nat × (Nat → Nat → Nat) × (Nat → Nat) × (Nat → Nat) × Nat × Nat × (Nat → Nat)
def VOKu (w n : Nat) (op mu ba en : Nat → Nat) (pr : Nat → Option Nat) (u : CSc) : Prop := VOK w n op mu ba en pr u.1 u.2.1 u.2.2.2.2.1 u.2.2.2.2.2.1 u.2.2.2.2.2.2.1 u.2.2.2.2.2.2.2.1 u.2.2.2.2.2.2.2.2.1 u.2.2.2.2.2.2.2.2.2.1 u.2.2.2.2.2.2.2.2.2.2.1 u.2.2.2.2.2.2.2.2.2.2.2.1 u.2.2.2.2.2.2.2.2.2.2.2.2
theorem mu_z {w : Nat} {hw z : Int32} (h : (wiI hw (nI 0) (nI 1) && plI w z) = false) (h1 : ¬ hw < 0) (h2 : ¬ nI 1 < hw) : plI w z = false := by
  rw [wiI_t (z0 := nI 0) h1 h2] at h
  exact h
theorem en_z {od sd z : Int32} (h : (wiI od (nI 0) (nI 1) && wiI sd (nI 0) (nI 1) && wiI z (nI 0) (nI 126) && !decide (z - z / nI 2 * nI 2 = nI 1)) = false) (h1 : ¬ od < 0) (h2 : ¬ nI 1 < od) (h3 : ¬ sd < 0) (h4 : ¬ nI 1 < sd) : (wiI z (nI 0) (nI 126) && !decide (z - z / nI 2 * nI 2 = nI 1)) = false := by
  rw [wiI_t (z0 := nI 0) h1 h2, wiI_t (z0 := nI 0) h3 h4] at h
  exact h
theorem lt512 {z : Int32} (h : z < nI 512) : ¬ nI 511 < z := by
  intro q
  rw [Int32.lt_iff_toInt_lt, nI_toInt (by omega)] at h q
  omega
theorem nI_m1 {k : Nat} (h : k < 2 ^ 31) : ¬ nI k = -1 := by
  intro e
  have := congrArg Int32.toInt e
  rw [nI_toInt h] at this
  have h2 : (-1 : Int32).toInt = -1 := by decide
  omega
theorem pc_z {w : Nat} {z : Int32} (h : z < nI w) (h1 : 2 ≤ w) (h2 : w ≤ 10) : ¬ nI (w - 1) < z := by
  intro q
  rw [Int32.lt_iff_toInt_lt, nI_toInt (by omega)] at h q
  omega
section BE
variable {w n lap : Nat} {op mu ba la en : Nat → Nat} {pr : Nat → Option Nat} {z lc : Nat}
theorem be_n1 (hG : GOK w n lap op mu ba la en pr) (hz1 : 1 ≤ z) (hz2 : z ≤ 3) (hl : lc = pwT w n op mu ba en pr z n (2 ^ (w - 1) - 1)) (h : decide (1000000 ≤ lc) = true) : bsS w op mu ba en pr n z = 1000000000 := by
  rw [M_best hG hz1 hz2] at hl
  have h1 := of_decide_eq_true h
  by_cases e : bsS w op mu ba en pr n z = 1000000000
  · exact e
  · rw [if_neg e] at hl
    rcases M_bs hG hz1 hz2 with h2 | h2
    · exact h2
    · omega
theorem be_y1 (hG : GOK w n lap op mu ba la en pr) (hz1 : 1 ≤ z) (hz2 : z ≤ 3) (hl : lc = pwT w n op mu ba en pr z n (2 ^ (w - 1) - 1)) (h : decide (1000000 ≤ lc) = false) : bsS w op mu ba en pr n z ≠ 1000000000 := by
  intro e
  rw [M_best hG hz1 hz2, if_pos e] at hl
  exact of_decide_eq_false h (by omega)
theorem be_l (hG : GOK w n lap op mu ba la en pr) (hz1 : 1 ≤ z) (hz2 : z ≤ 3) (hl : lc = pwT w n op mu ba en pr z n (2 ^ (w - 1) - 1)) (hb : bsS w op mu ba en pr n z ≠ 1000000000) : lc = bsS w op mu ba en pr n z := by
  rw [M_best hG hz1 hz2, if_neg hb] at hl
  exact hl
theorem be_n (hG : GOK w n lap op mu ba la en pr) (hz1 : 1 ≤ z) (hz2 : z ≤ 3) (hl : lc = pwT w n op mu ba en pr z n (2 ^ (w - 1) - 1)) (h : decide (1000000 ≤ lc) = true) : bsI w op mu ba en pr n z = -9 := bsI_n (be_n1 hG hz1 hz2 hl h)
theorem be_y (hG : GOK w n lap op mu ba la en pr) (hz1 : 1 ≤ z) (hz2 : z ≤ 3) (hl : lc = pwT w n op mu ba en pr z n (2 ^ (w - 1) - 1)) (h : decide (1000000 ≤ lc) = false) : bsI w op mu ba en pr n z = nI lc := by
  have hb := be_y1 hG hz1 hz2 hl h
  rw [be_l hG hz1 hz2 hl hb, bsI_y hb]
end BE
