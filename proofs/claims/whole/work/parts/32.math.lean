/-! the class's tables and the reference's are the same -/
section MA
variable {w n lap : Nat} {op mu ba la en : Nat → Nat} {pr : Nat → Option Nat} {z ci i : Nat}
theorem M_fc (hG : GOK w n lap op mu ba la en pr) (hc : ci < n) (hi : i < 2 ^ (w - 1)) : (fcC w op mu ba en pr ci i < 1000000 ↔ rg w op mu ba en pr ci i = true) ∧ (rg w op mu ba en pr ci i = true → fcC w op mu ba en pr ci i = coF pr w (op ci) (2 * i)) := by
  sorry
theorem M_best (hG : GOK w n lap op mu ba la en pr) (hz1 : 1 ≤ z) (hz2 : z ≤ 3) : pwT w n op mu ba en pr z n (2 ^ (w - 1) - 1) = if bsS w op mu ba en pr n z = 1000000000 then 1000000 else bsS w op mu ba en pr n z := by
  sorry
theorem M_bs (hG : GOK w n lap op mu ba la en pr) (hz1 : 1 ≤ z) (hz2 : z ≤ 3) : bsS w op mu ba en pr n z = 1000000000 ∨ bsS w op mu ba en pr n z ≤ 8000 := by
  sorry
theorem M_ch (hG : GOK w n lap op mu ba la en pr) (hz1 : 1 ≤ z) (hz2 : z ≤ 3) (h : bsS w op mu ba en pr n z ≠ 1000000000) : ∀ q, q < n → chS w n op mu ba en pr z q = bsR w op mu ba en pr n z q := by
  sorry
theorem M_walls (hG : GOK w n lap op mu ba la en pr) (hz1 : 1 ≤ z) (hz2 : z ≤ 3) : rvS w op mu ba en pr z n = wlS w op mu ba en pr n z := by
  sorry
theorem M_high (hG : GOK w n lap op mu ba la en pr) (hz1 : 1 ≤ z) (hz2 : z ≤ 3) : rcN w op mu ba en pr z n = hgG (fun q => (rws w op mu ba en pr q).any (rcS w op mu ba en pr z q)) n 0 := by
  sorry
theorem M_rule {j : Nat} (hG : GOK w n lap op mu ba la en pr) (hc : ci < n) (hj : j < 2 ^ w) (hj2 : j % 2 = 0) : ruF pr w (op ci) (bl op ci) (mu ci) (ba ci) (en (ci % 2 * 2)) (en (ci % 2 * 2 + 1)) j = if decide (j &&& (op ci ||| op ci <<< 1) = 0) = false then 1 else if (decide (j &&& mu ci = mu ci) && decide (j &&& ba ci = 0)) = false then 2 else rpS pr w (op ci) (bl op ci) (en (ci % 2 * 2)) (en (ci % 2 * 2 + 1)) j w := by
  sorry
theorem M_len {o j x xf xt : Nat} (ho : o < 2 ^ w) (hx : x < w) (hox : o.testBit x = false) (h1 : xf ≤ x) (h2 : xf = 0 ∨ (bnd w o j).testBit xf = true) (h3 : ∀ y, xf < y → y ≤ x → (bnd w o j).testBit y = false) (h4 : x < xt) (h5 : xt ≤ w) (h6 : xt = w ∨ (bnd w o j).testBit xt = true) (h7 : ∀ y, x < y → y < xt → (bnd w o j).testBit y = false) : xt - xf = lenF w o j (foF o j x) := by
  sorry
end MA
theorem M_cost {w n : Nat} {op jf : Nat → Nat} {pr : Nat → Option Nat} {tl : Nat → Nat} (hw : w ≤ 10) (h : ∀ q, q ≤ 10 → tl q = sumN (fun c => pcF w (op c) (jf c) q) n) : sumN (fun q => tl (q + 1) * prN pr (q + 1)) 10 = sumN (fun q => coF pr w (op q) (jf q)) n := by
  sorry
theorem M_total {w n : Nat} {op jf : Nat → Nat} {tl : Nat → Nat} (h : ∀ q, q ≤ 10 → tl q = sumN (fun c => pcF w (op c) (jf c) q) n) : sumN tl 11 = sumN (fun q => sumN (fun z => pcF w (op z) (jf z) (q + 1)) n) 10 := by
  sorry
theorem M_span {w o : Nat} {tl : Nat → Nat} (hw : w ≤ 10) (h : ∀ q, q ≤ 10 → tl q = pcF w o 0 q) : sumN tl 11 = sumN (spT o) w := by
  sorry
theorem pcF_0 {w o j q : Nat} (h : w < q) : pcF w o j q = 0 := by
  sorry
def tyS (tl op jf : Nat → Nat) (w k : Nat) : Nat → Nat := fun q => lyF tl (fun _ => 0) 11 q + sumN (fun c => pcF w (op c) (jf c) q) k
theorem tyS_0 {tl op jf : Nat → Nat} {w : Nat} : lyF tl (fun _ => 0) 11 = tyS tl op jf w 0 := rfl
theorem tyS_s {tl op jf : Nat → Nat} {w k : Nat} : tlP w (op k) (jf k) (tyS tl op jf w k) w = tyS tl op jf w (k + 1) := by
  funext q
  unfold tlP tyS
  rw [Nat.add_assoc]
  rfl
theorem tyS_e {tl op jf : Nat → Nat} {w n q : Nat} (h : q ≤ 10) : tyS tl op jf w n q = sumN (fun c => pcF w (op c) (jf c) q) n := by
  unfold tyS lyF
  rw [if_pos (by omega)]
  exact Nat.zero_add _
theorem tyS_le {tl op jf : Nat → Nat} {w n : Nat} (hw : w ≤ 10) (hn : n ≤ 8) (h : ∀ q, tl q ≤ 1000) : ∀ q, tyS tl op jf w n q ≤ 1000 := by
  intro q
  by_cases hq : q ≤ 10
  · rw [tyS_e hq]
    have := lp_le (op := op) (la := jf) (L := q) hw hn
    omega
  · unfold tyS lyF
    rw [if_neg (by omega)]
    have e : sumN (fun c => pcF w (op c) (jf c) q) n = sumN (fun _ => 0) n := sumN_congr n (fun c _ => pcF_0 (by omega))
    have e2 : ∀ k, sumN (fun _ => 0) k = 0 := by
      intro k
      induction k with
      | zero => rfl
      | succ k ih => show sumN _ k + 0 = 0; rw [ih]
    rw [e, e2]
    have := h q
    omega
/-- what is kept true of the class's own tables -/
def VOK (w n : Nat) (op mu ba en : Nat → Nat) (pr : Nat → Option Nat) (fr : Bool) (co : Nat → Nat → Nat) (cl : Nat) (rv : Int64) (rc : Nat) (pj : Nat → Nat → Nat) (pw ch : Nat → Nat) (pl lc : Nat) (tl : Nat → Nat) : Prop :=
  COK co ∧ (fr = true → CoOk w n op mu ba en pr co) ∧ cl ≤ 3 ∧ (1 ≤ cl → rv = rvS w op mu ba en pr cl n ∧ rc = rcN w op mu ba en pr cl n) ∧ pl ≤ 3 ∧ COK pj ∧ (∀ q, ch q < 512) ∧ (∀ S, pw S ≤ 1000000) ∧ lc ≤ 1000000 ∧ (1 ≤ pl → lc = pwT w n op mu ba en pr pl n (2 ^ (w - 1) - 1) ∧ ∀ q, q < n → ch q = chS w n op mu ba en pr pl q) ∧ ∀ q, tl q ≤ 1000
theorem VOK_f {w n w' n' : Nat} {op mu ba en op' mu' ba' en' : Nat → Nat} {pr pr' : Nat → Option Nat} {fr : Bool} {co : Nat → Nat → Nat} {cl : Nat} {rv : Int64} {rc : Nat} {pj : Nat → Nat → Nat} {pw ch : Nat → Nat} {pl lc : Nat} {tl : Nat → Nat} (h : VOK w n op mu ba en pr fr co cl rv rc pj pw ch pl lc tl) : VOK w' n' op' mu' ba' en' pr' false co 0 rv rc pj pw ch 0 lc tl := by
  obtain ⟨h1, h2, h3, h4, h5, h6, h7, h8, h9, h10, h11⟩ := h
  exact ⟨h1, fun q => absurd q (by decide), by omega, fun q => absurd q (by omega), by omega, h6, h7, h8, h9, fun q => absurd q (by omega), h11⟩
theorem flt_congr {p q : Nat → Bool} {N : Nat} (h : ∀ i, i < N → p i = q i) : flt p N = flt q N := by
  unfold flt
  exact List.filter_congr (fun x hx => h x (List.mem_range.mp hx))
theorem rws_flt {w n lap : Nat} {op mu ba la en : Nat → Nat} {pr : Nat → Option Nat} {ci : Nat} {co : Nat → Nat → Nat} (hG : GOK w n lap op mu ba la en pr) (hc : ci < n) (h : CoOk w n op mu ba en pr co) : flt (fun q => decide (co ci q < 1000000)) (2 ^ (w - 1)) = rws w op mu ba en pr ci := by
  show _ = flt (rg w op mu ba en pr ci) (2 ^ (w - 1))
  refine flt_congr (fun i hi => ?_)
  rw [h ci i hc hi]
  have := (M_fc hG hc hi).1
  cases hr : rg w op mu ba en pr ci i with
  | true => exact decide_eq_true (this.mpr hr)
  | false => exact decide_eq_false (fun q => by rw [this.mp q] at hr; cases hr)
/-- refused numbers, as masks see them -/
theorem mk_zero {x m : Int32} (h : x &&& (m ^^^ (-1)) = 0) : x &&& m = x := by
  apply Int32.toBitVec_inj.mp
  have h2 := congrArg Int32.toBitVec h
  simp only [Int32.toBitVec_and, Int32.toBitVec_xor] at h2 ⊢
  apply BitVec.eq_of_getLsbD_eq
  intro k hk
  have h3 := congrArg (fun v => v.getLsbD k) h2
  have h4 : (-1 : Int32).toBitVec = BitVec.allOnes 32 := by decide
  have h5 : (0 : Int32).toBitVec = 0#32 := by decide
  simp only [h4, h5, BitVec.getLsbD_and, BitVec.getLsbD_xor, BitVec.getLsbD_allOnes, hk, decide_true, BitVec.getLsbD_zero] at h3
  rw [BitVec.getLsbD_and]
  cases hx : x.toBitVec.getLsbD k <;> cases hm : m.toBitVec.getLsbD k <;> simp [hx, hm] at h3 ⊢
theorem mk_cells {w : Nat} {z : Int32} (h1 : 2 ≤ w) (h2 : w ≤ 10) (h : wiI z (nI 0) (nI (2 ^ w - 1)) = false) : ¬ z &&& (nI (2 ^ w - 1) ^^^ (-1)) = 0 := by
  intro q
  have e := mk_zero q
  have pw : 2 ^ w ≤ 2 ^ 10 := Nat.pow_le_pow_right (by decide) h2
  obtain ⟨j, hj, e2⟩ := pk_andE z (m := nI (2 ^ w - 1)) w (by rw [pk_tn (by omega)])
  rw [← e, e2] at h
  rw [wiN (by omega) (by omega) (by omega)] at h
  cases h
theorem mk_places {w : Nat} {z : Int32} (h1 : 2 ≤ w) (h2 : w ≤ 10) (h : plI w z = false) : ¬ z &&& (nI (2 ^ w - 2) ^^^ (-1)) = 0 := by
  sorry
theorem mk_ends {z : Int32} (h : (wiI z (nI 0) (nI 126) && !decide (z - z / nI 2 * nI 2 = nI 1)) = false) : ¬ z &&& (-127) = 0 := by
  sorry
theorem ndf_cells {w k : Nat} (h : k < 2 ^ w) : ndf k (2 ^ w - 1) = 0 := by
  apply Nat.eq_of_testBit_eq
  intro y
  rw [ndf_bit, Nat.testBit_two_pow_sub_one, Nat.zero_testBit]
  by_cases e : y < w
  · simp [e]
  · rw [Nat.testBit_lt_two_pow (Nat.lt_of_lt_of_le h (Nat.pow_le_pow_right (by decide) (by omega)))]; rfl
theorem ndf_places {w k : Nat} (h1 : 1 ≤ w) (h : k < 2 ^ w) (h2 : k % 2 = 0) : ndf k (2 ^ w - 2) = 0 := by
  sorry
theorem and_ends {k : Nat} (h : k ≤ 126) (h2 : k % 2 = 0) : nI k &&& (-127) = 0 := by
  have : ∀ k, k < 127 → k % 2 = 0 → nI k &&& (-127) = 0 := by decide +kernel
  exact this k (by omega) h2
def bc1 (x : Int32) : Int32 := x - ((x.toUInt32 >>> ((nI 1).toUInt32 &&& Int32.toUInt32 31)).toInt32 &&& nI 1431655765)
def bc2 (x : Int32) : Int32 := (x &&& nI 858993459) + ((x.toUInt32 >>> ((nI 2).toUInt32 &&& Int32.toUInt32 31)).toInt32 &&& nI 858993459)
def bc3 (x : Int32) : Int32 := (x + (x.toUInt32 >>> ((nI 4).toUInt32 &&& Int32.toUInt32 31)).toInt32) &&& nI 252645135
def bc4 (x : Int32) : Int32 := x + (x.toUInt32 >>> ((nI 8).toUInt32 &&& Int32.toUInt32 31)).toInt32
def bc5 (x : Int32) : Int32 := x + (x.toUInt32 >>> ((nI 16).toUInt32 &&& Int32.toUInt32 31)).toInt32
set_option maxRecDepth 100000 in
theorem bc_all : ∀ k, k < 1024 → bc5 (bc4 (bc3 (bc2 (bc1 (nI k))))) &&& nI 63 = nI (popG 31 k) := by decide +kernel
section RI
variable {w n lap : Nat} {op mu ba la en : Nat → Nat} {pr : Nat → Option Nat} {ci : Nat}
theorem ri_1 {K1 K2 : Bool} {r : Nat} (mr : ruF pr w (op ci) (bl op ci) (mu ci) (ba ci) (en (ci % 2 * 2)) (en (ci % 2 * 2 + 1)) (la ci) = if K1 = false then 1 else if K2 = false then 2 else r) (h1 : K1 = false) : nI 1 = nI (lrF pr w lap op mu ba la en ci) := by
  rw [if_pos h1] at mr
  rw [← lrF_1 (by rw [mr]; decide), mr]
theorem ri_2 {K1 K2 : Bool} {r : Nat} (mr : ruF pr w (op ci) (bl op ci) (mu ci) (ba ci) (en (ci % 2 * 2)) (en (ci % 2 * 2 + 1)) (la ci) = if K1 = false then 1 else if K2 = false then 2 else r) (h1 : K1 = true) (h2 : K2 = false) : nI 2 = nI (lrF pr w lap op mu ba la en ci) := by
  rw [h1, h2] at mr
  have mr2 : ruF pr w (op ci) (bl op ci) (mu ci) (ba ci) (en (ci % 2 * 2)) (en (ci % 2 * 2 + 1)) (la ci) = 2 := mr
  rw [← lrF_1 (by rw [mr2]; decide), mr2]
theorem ri_3 {K1 K2 : Bool} {r : Nat} (mr : ruF pr w (op ci) (bl op ci) (mu ci) (ba ci) (en (ci % 2 * 2)) (en (ci % 2 * 2 + 1)) (la ci) = if K1 = false then 1 else if K2 = false then 2 else r) (h1 : K1 = true) (h2 : K2 = true) (h3 : ¬ r = 0) : nI r = nI (lrF pr w lap op mu ba la en ci) := by
  rw [h1, h2] at mr
  have mr2 : ruF pr w (op ci) (bl op ci) (mu ci) (ba ci) (en (ci % 2 * 2)) (en (ci % 2 * 2 + 1)) (la ci) = r := mr
  rw [← lrF_1 (by rw [mr2]; exact h3), mr2]
theorem ar_0 : ∀ z, arG 0 z = 0
  | 0 => rfl
  | z + 1 => by
    unfold arG
    split
    · rfl
    · rw [ar_0 z]; simp
theorem ri_bl : (decide (0 < ci) && decide (arG (la (ci - 1)) lap &&& la ci ≠ 0)) = decide (¬ (la ci &&& arG (bl la ci) lap = 0)) := by
  unfold bl
  by_cases e : ci = 0
  · rw [if_pos e, ar_0, e]
    simp
  · rw [if_neg e, Nat.and_comm]
    simp [show 0 < ci by omega]
theorem ri_7 {K1 K2 : Bool} {r : Nat} (mr : ruF pr w (op ci) (bl op ci) (mu ci) (ba ci) (en (ci % 2 * 2)) (en (ci % 2 * 2 + 1)) (la ci) = if K1 = false then 1 else if K2 = false then 2 else r) (h1 : K1 = true) (h2 : K2 = true) (h3 : r = 0) (h4 : ¬ la ci &&& arG (bl la ci) lap = 0) : nI 7 = nI (lrF pr w lap op mu ba la en ci) := by
  rw [h1, h2, h3] at mr
  have mr2 : ruF pr w (op ci) (bl op ci) (mu ci) (ba ci) (en (ci % 2 * 2)) (en (ci % 2 * 2 + 1)) (la ci) = 0 := mr
  exact lrF_2 mr2 (by rw [ri_bl]; exact decide_eq_true h4)
theorem ri_0 {K1 K2 : Bool} {r : Nat} (mr : ruF pr w (op ci) (bl op ci) (mu ci) (ba ci) (en (ci % 2 * 2)) (en (ci % 2 * 2 + 1)) (la ci) = if K1 = false then 1 else if K2 = false then 2 else r) (h1 : K1 = true) (h2 : K2 = true) (h3 : r = 0) (h4 : la ci &&& arG (bl la ci) lap = 0) : nI 0 = nI (lrF pr w lap op mu ba la en ci) := by
  rw [h1, h2, h3] at mr
  have mr2 : ruF pr w (op ci) (bl op ci) (mu ci) (ba ci) (en (ci % 2 * 2)) (en (ci % 2 * 2 + 1)) (la ci) = 0 := mr
  exact lrF_3 mr2 (by rw [ri_bl]; exact decide_eq_false (fun q => q h4))
end RI
theorem sp_e {w o q : Nat} {tl : Nat → Nat} (h : q ≤ 10) : tlP w o 0 (lyF tl (fun _ => 0) 11) w q = pcF w o 0 q := by
  unfold tlP lyF
  rw [if_pos (by omega)]
  show 0 + _ = _
  rw [Nat.zero_add]
  rfl
theorem sp_le {w o : Nat} {tl : Nat → Nat} (hw : w ≤ 10) (h : ∀ q, tl q ≤ 1000) : ∀ q, tlP w o 0 (lyF tl (fun _ => 0) 11) w q ≤ 1000 := by
  intro q
  by_cases hq : q ≤ 10
  · rw [sp_e hq]
    have := pcF_le hw o 0 q
    omega
  · unfold tlP lyF
    rw [if_neg (by omega)]
    have e : sumN (pcT w o 0 q) w = 0 := pcF_0 (by omega)
    rw [e]
    exact h q
