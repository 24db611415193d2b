/-! small words of the class's methods -/
def fwF (z : Nat) : Nat := 2 ^ z >>> 1
theorem fwF_le {z : Nat} (h : z ≤ 10) : fwF z ≤ 512 := by
  have e2 : 2 ^ z ≤ 2 ^ 10 := Nat.pow_le_pow_right (by decide) h
  unfold fwF
  rw [Nat.shiftRight_eq_div_pow]
  omega
def ppI (pr : Nat → Option Nat) (L : Nat) : Int32 := if L < 1 then -9 else if 6 < L then -9 else pI (pr L)
theorem ppI_1 {pr : Nat → Option Nat} {L : Nat} (h : L < 1) : (-9 : Int32) = ppI pr L := by unfold ppI; rw [if_pos h]
theorem ppI_2 {pr : Nat → Option Nat} {L : Nat} (h : 6 < L) : (-9 : Int32) = ppI pr L := by
  unfold ppI
  rw [if_neg (by omega), if_pos h]
theorem ppI_3 {pr : Nat → Option Nat} {L : Nat} (h1 : 1 ≤ L) (h : L ≤ 6) : pz (-9) pr L = ppI pr L := by
  unfold ppI pz
  rw [if_neg (by omega), if_neg (by omega), if_neg (by omega)]
theorem wiH_t {v : Int32} {n : Nat} (h1 : ¬ v < 0) (h2 : ¬ nI n ≤ v) (hn : n ≤ 8) : wiI v 0 (nI n - 1) = true := by
  obtain ⟨j, hj, rfl⟩ := nI_of h1
  have h3 : j < n := nI_le2 (by omega) hj h2
  exact wiC h3 (by omega)
theorem wiH_f {v : Int32} {n : Nat} (h2 : nI n ≤ v) (hn : n ≤ 8) : wiI v 0 (nI n - 1) = false := by
  refine wiI_r ?_
  rw [Int32.lt_iff_toInt_lt]
  rw [Int32.le_iff_toInt_le, nI_toInt (by omega)] at h2
  have e : (nI n - 1).toInt = (n : Int) - 1 := sub_ti (a := n) (b := 1) (by omega) (by omega)
  rw [e]
  omega
theorem bes_lt {op : Nat → Nat} (h : ∀ i, op i < 1024) (i : Nat) : gz op i ||| gz op i <<< 1 < 2048 := by
  have o1 := gz_le h (by decide) i
  have o2 : gz op i <<< 1 < 2048 := by rw [Nat.shiftLeft_eq]; omega
  exact Nat.or_lt_two_pow (n := 11) (by omega) o2
def bnd (w o j : Nat) : Nat := (j ||| (o ||| o <<< 1)) ||| 2 ^ w
theorem bnd_lt {w : Nat} {op : Nat → Nat} (hw : w ≤ 10) (h : ∀ i, op i < 1024) (i : Nat) {j : Nat} (hj : j < 2048) : bnd w (gz op i) j < 2048 := by
  have e2 : 2 ^ w ≤ 2 ^ 10 := Nat.pow_le_pow_right (by decide) hw
  exact Nat.or_lt_two_pow (n := 11) (Nat.or_lt_two_pow (n := 11) hj (bes_lt h i)) (by omega)
theorem pl_and {w : Nat} (h1 : 2 ≤ w) (h2 : w ≤ 10) : nI (2 ^ w - 1) &&& (-2) = nI (2 ^ w - 2) := by
  have hc : w = 2 ∨ w = 3 ∨ w = 4 ∨ w = 5 ∨ w = 6 ∨ w = 7 ∨ w = 8 ∨ w = 9 ∨ w = 10 := by omega
  rcases hc with rfl | rfl | rfl | rfl | rfl | rfl | rfl | rfl | rfl <;> decide
theorem set_le {w : Nat} (h : w ≤ 10) : 2 ^ (w - 1) ≤ 512 := by
  have : 2 ^ (w - 1) ≤ 2 ^ 9 := Nat.pow_le_pow_right (by decide) (by omega)
  omega
theorem set_ge {w : Nat} (h : 2 ≤ w) : 2 ≤ 2 ^ (w - 1) := by
  have : 2 ^ 1 ≤ 2 ^ (w - 1) := Nat.pow_le_pow_right (by decide) (by omega)
  omega
theorem bI_fit (b : Bool) : fits .boolean (.int (bI b)) = true := by cases b <;> rfl
