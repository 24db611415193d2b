/-! pieces, rules and costs of a course: the class's words and the reference's are the same -/
theorem mq_bo {o j x : Nat} (h : beg o j x = true) : o.testBit x = false := by
  cases ho : o.testBit x with
  | false => rfl
  | true =>
    unfold beg at h
    rw [ho] at h
    simp at h
theorem mq_fo {o j : Nat} : ∀ x, o.testBit x = false → beg o j (foF o j x) = true ∧ ∀ y, foF o j x ≤ y → y ≤ x → o.testBit y = false ∧ (foF o j x < y → beg o j y = false)
  | 0, h => by
    have e : foF o j 0 = 0 := rfl
    refine ⟨beg_0 h rfl, fun y h1 h2 => ?_⟩
    have : y = 0 := by omega
    subst this
    exact ⟨h, fun q => absurd q (by rw [e]; omega)⟩
  | x + 1, h => by
    cases hb : beg o j (x + 1) with
    | true =>
      rw [foF_t hb]
      refine ⟨hb, fun y h1 h2 => ?_⟩
      have : y = x + 1 := by omega
      subst this
      exact ⟨h, fun q => absurd q (Nat.lt_irrefl _)⟩
    | false =>
      obtain ⟨-, h3⟩ := beg_f0 h hb
      have e : foF o j (x + 1) = foF o j x := foF_f (Nat.succ_pos x) hb
      rw [e]
      obtain ⟨g1, g2⟩ := mq_fo (o := o) (j := j) x (by simpa using h3)
      refine ⟨g1, fun y h1 h2 => ?_⟩
      by_cases q : y = x + 1
      · subst q; exact ⟨h, fun _ => hb⟩
      · exact g2 y h1 (by omega)
theorem mq_len {w o j x xf xt : Nat} (hox : o.testBit x = false) (h1 : xf ≤ x) (h2 : xf = 0 ∨ (bnd w o j).testBit xf = true) (h3 : ∀ y, xf < y → y ≤ x → (bnd w o j).testBit y = false) (h4 : x < xt) (h5 : xt ≤ w) (h6 : xt = w ∨ (bnd w o j).testBit xt = true) (h7 : ∀ y, x < y → y < xt → (bnd w o j).testBit y = false) : xt - xf = lenF w o j (foF o j x) := by
  have hof : ∀ y, xf ≤ y → y ≤ x → o.testBit y = false := by
    intro y a1 a2
    by_cases e : y = x
    · rw [e]; exact hox
    · have := h3 (y + 1) (by omega) (by omega)
      rw [bnd_bit] at this
      simp only [Bool.or_eq_false_iff, Bool.and_eq_false_iff, decide_eq_false_iff_not] at this
      rcases this.1.2 with q | q
      · omega
      · simpa using q
  have ho : o.testBit xf = false := hof xf (Nat.le_refl _) h1
  have hno : ∀ y, xf < y → y < xt → (bnd w o j).testBit y = false := fun y a1 a2 => if e : y ≤ x then h3 y a1 e else h7 y (by omega) a2
  obtain ⟨k1, k2, k3⟩ := KB h5 (by omega) h2 hno h6
  have hfo : foF o j x = xf := by
    obtain ⟨g1, g2⟩ := mq_fo (o := o) (j := j) x hox
    rcases Nat.lt_trichotomy (foF o j x) xf with q | q | q
    · have := (g2 xf (by omega) h1).2 q
      rw [k1, ho] at this
      simp at this
    · exact q
    · have h9 := foF_le o j x
      have := k3 _ q (by omega)
      rw [this] at g1; cases g1
  rw [hfo, k2 ho]
theorem mq_pcw {w o j q : Nat} (h : w < q) : pcF w o j q = 0 := by
  unfold pcF
  refine mq_sum0 w (fun x hx => ?_)
  have := lenF_le (o := o) (j := j) hx
  unfold pcT
  rw [if_neg]
  intro e
  simp only [Bool.and_eq_true, beq_iff_eq] at e
  omega
theorem mq_pc0 {w o j : Nat} : pcF w o j 0 = 0 := by
  unfold pcF
  refine mq_sum0 w (fun x hx => ?_)
  have := lenF_pos (w := w) (o := o) (j := j) (x := x)
  unfold pcT
  rw [if_neg]
  intro e
  simp only [Bool.and_eq_true, beq_iff_eq] at e
  omega
theorem mq_total {w n : Nat} {op jf : Nat → Nat} {tl : Nat → Nat} (h : ∀ q, q ≤ 10 → tl q = sumN (fun c => pcF w (op c) (jf c) q) n) : sumN tl 11 = sumN (fun q => sumN (fun z => pcF w (op z) (jf z) (q + 1)) n) 10 := by
  have k0 : tl 0 = 0 := by
    rw [h 0 (by omega)]
    exact mq_sum0 n (fun c _ => mq_pc0)
  have k1 : sumN tl 11 = sumN tl 1 + sumN (fun q => tl (1 + q)) 10 := mq_split 1 10
  have k2 : sumN tl 1 = 0 := by show 0 + tl 0 = 0; rw [k0]
  rw [k1, k2, Nat.zero_add]
  refine sumN_congr 10 (fun q hq => ?_)
  show tl (1 + q) = sumN (fun z => pcF w (op z) (jf z) (q + 1)) n
  rw [Nat.add_comm 1 q]
  exact h (q + 1) (by omega)
theorem mq_span {w o : Nat} {tl : Nat → Nat} (hw : w ≤ 10) (h : ∀ q, q ≤ 10 → tl q = pcF w o 0 q) : sumN tl 11 = sumN (spT o) w := by
  have k1 : sumN tl 11 = sumN (fun q => sumN (pcT w o 0 q) w) 11 := sumN_congr 11 (fun q hq => h q (by omega))
  rw [k1, mq_swap]
  refine sumN_congr w (fun x hx => ?_)
  show sumN (fun q => pcT w o 0 q x) 11 = spT o x
  have h1 := lenF_le (o := o) (j := 0) hx
  have k2 : sumN (fun q => pcT w o 0 q x) 11 = sumN (fun q => if lenF w o 0 x = q then (if beg o 0 x then 1 else 0) else 0) 11 := sumN_congr 11 (fun q _ => by
     show pcT w o 0 q x = if lenF w o 0 x = q then (if beg o 0 x then 1 else 0) else 0
     unfold pcT
     cases beg o 0 x <;> by_cases e : lenF w o 0 x = q <;> simp [e])
  rw [k2, mq_one (g := fun _ => if beg o 0 x then 1 else 0), if_pos (by omega)]
  unfold spT beg
  rw [Nat.zero_testBit, Bool.or_false]
theorem mq_cost {w n : Nat} {op jf : Nat → Nat} {pr : Nat → Option Nat} {tl : Nat → Nat} (hw : w ≤ 10) (h : ∀ q, q ≤ 10 → tl q = sumN (fun c => pcF w (op c) (jf c) q) n) : sumN (fun q => tl (q + 1) * prN pr (q + 1)) 10 = sumN (fun q => coF pr w (op q) (jf q)) n := by
  have k1 : sumN (fun q => tl (q + 1) * prN pr (q + 1)) 10 = sumN (fun q => sumN (fun c => pcF w (op c) (jf c) (q + 1) * prN pr (q + 1)) n) 10 := sumN_congr 10 (fun q hq => by
    show tl (q + 1) * prN pr (q + 1) = sumN (fun c => pcF w (op c) (jf c) (q + 1) * prN pr (q + 1)) n
    rw [h (q + 1) (by omega), mq_mul])
  rw [k1, mq_swap]
  refine sumN_congr n (fun c _ => ?_)
  show sumN (fun q => pcF w (op c) (jf c) (q + 1) * prN pr (q + 1)) 10 = sumN (coT pr w (op c) (jf c)) w
  have k2 : sumN (fun q => pcF w (op c) (jf c) (q + 1) * prN pr (q + 1)) 10 = sumN (fun q => sumN (fun x => pcT w (op c) (jf c) (q + 1) x * prN pr (q + 1)) w) 10 := sumN_congr 10 (fun q _ => mq_mul w)
  rw [k2, mq_swap]
  refine sumN_congr w (fun x hx => ?_)
  have g1 := lenF_le (o := op c) (j := jf c) hx
  have g2 := lenF_pos (w := w) (o := op c) (j := jf c) (x := x)
  show sumN (fun q => pcT w (op c) (jf c) (q + 1) x * prN pr (q + 1)) 10 = coT pr w (op c) (jf c) x
  have k3 : sumN (fun q => pcT w (op c) (jf c) (q + 1) x * prN pr (q + 1)) 10 = sumN (fun q => if lenF w (op c) (jf c) x - 1 = q then (if beg (op c) (jf c) x then prN pr (q + 1) else 0) else 0) 10 := sumN_congr 10 (fun q _ => by
    show pcT w (op c) (jf c) (q + 1) x * prN pr (q + 1) = if lenF w (op c) (jf c) x - 1 = q then (if beg (op c) (jf c) x then prN pr (q + 1) else 0) else 0
    unfold pcT
    by_cases e : lenF w (op c) (jf c) x - 1 = q
    · have e2 : lenF w (op c) (jf c) x = q + 1 := by omega
      rw [if_pos e, e2]
      cases beg (op c) (jf c) x <;> simp
    · have e2 : ¬ lenF w (op c) (jf c) x = q + 1 := by omega
      rw [if_neg e]
      cases beg (op c) (jf c) x <;> simp [e2])
  rw [k3, mq_one (g := fun q => if beg (op c) (jf c) x then prN pr (q + 1) else 0), if_pos (by omega), show lenF w (op c) (jf c) x - 1 + 1 = lenF w (op c) (jf c) x by omega]
  rfl
theorem mq_wi {w o j : Nat} (hj : j < 2 ^ w) (hj2 : j % 2 = 0) : allN (wiT o j) w = decide (j &&& (o ||| o <<< 1) = 0) := by
  have h0 : j.testBit 0 = false := Nat.mod_two_eq_zero_iff_testBit_zero.mp hj2
  rw [Bool.eq_iff_iff, mq_all, decide_eq_true_eq]
  constructor
  · intro h
    apply Nat.eq_of_testBit_eq
    intro y
    rw [Nat.testBit_and, Nat.testBit_or, Nat.testBit_shiftLeft, Nat.zero_testBit]
    cases hy : j.testBit y with
    | false => rfl
    | true =>
      have y0 : y ≠ 0 := fun q => by rw [q, h0] at hy; cases hy
      have := h y (mq_lt hj hy)
      unfold wiT at this
      simp only [hy, beq_eq_false_iff_ne.mpr y0, Bool.false_or, Bool.not_true, Bool.and_eq_true, Bool.not_eq_true'] at this
      rw [this.1, this.2]
      simp
  · intro h x hx
    unfold wiT
    cases hy : j.testBit x with
    | false => simp
    | true =>
      have := congrArg (fun v => v.testBit x) h
      simp only [Nat.testBit_and, Nat.testBit_or, Nat.testBit_shiftLeft, Nat.zero_testBit, hy, Bool.true_and, Bool.or_eq_false_iff] at this
      by_cases e : x = 0
      · simp [e]
      · have h1 : 1 ≤ x := by omega
        have h2 : o.testBit (x - 1) = false := by simpa [h1] using this.2
        simp [this.1, h2]
theorem mq_and {a b : Nat} : ndf a b = 0 ↔ ∀ y, a.testBit y = true → b.testBit y = true := by
  constructor
  · intro h y hy
    have := congrArg (fun v => v.testBit y) h
    simp only [ndf_bit, hy, Nat.zero_testBit, Bool.true_and] at this
    simpa using this
  · intro h
    apply Nat.eq_of_testBit_eq
    intro y
    rw [ndf_bit, Nat.zero_testBit]
    cases hy : a.testBit y with
    | false => rfl
    | true => rw [h y hy]; rfl
theorem mq_must {mu j : Nat} : ndf mu j = 0 ↔ j &&& mu = mu := by
  constructor
  · intro h
    apply Nat.eq_of_testBit_eq
    intro y
    rw [Nat.testBit_and]
    cases hy : mu.testBit y with
    | false => simp
    | true => rw [mq_and.mp h y hy]; rfl
  · intro h
    rw [mq_and]
    intro y hy
    have := congrArg (fun v => v.testBit y) h
    simp only [Nat.testBit_and, hy, Bool.and_true] at this
    exact this
theorem mq_ends {w o j e0 e1 : Nat} (hw : 1 ≤ w) : (!enOk w o j e0 e1) = anyN (sp4 w o j e0 e1) w := by
  rw [Bool.eq_iff_iff, mq_any]
  constructor
  · intro h
    rw [Bool.not_eq_true'] at h
    unfold enOk at h
    rw [Bool.and_eq_false_iff, Bool.or_eq_false_iff, Bool.or_eq_false_iff] at h
    rcases h with ⟨a1, a2⟩ | ⟨a1, a2⟩
    · refine ⟨0, by omega, ?_⟩
      unfold sp4 r4T
      simp [beg_0 (j := j) a1 rfl, a2]
    · obtain ⟨g1, g2⟩ := mq_fo (o := o) (j := j) (w - 1) a1
      have hle := foF_le o j (w - 1)
      have k1 : foF o j (w - 1) + lenF w o j (foF o j (w - 1)) = w := by
        have k2 := lenF_le (w := w) (o := o) (j := j) (x := foF o j (w - 1)) (by omega)
        have k3 := lenF_pos (w := w) (o := o) (j := j) (x := foF o j (w - 1))
        rcases mq_lend (w := w) (o := o) (j := j) (x := foF o j (w - 1)) (by omega) with q | q
        · exact q
        · by_cases e : foF o j (w - 1) + lenF w o j (foF o j (w - 1)) = w
          · exact e
          · obtain ⟨c1, c2⟩ := g2 (foF o j (w - 1) + lenF w o j (foF o j (w - 1))) (by omega) (by omega)
            unfold bdy at q
            rw [c1, c2 (by omega)] at q
            cases q
      refine ⟨foF o j (w - 1), by omega, ?_⟩
      unfold sp4 r4T
      simp [g1, k1, a2]
  · rintro ⟨x, hx, hs⟩
    unfold sp4 r4T at hs
    simp only [Bool.and_eq_true, Bool.or_eq_true, decide_eq_true_eq, Bool.not_eq_true'] at hs
    obtain ⟨hb, hs⟩ := hs
    have hox := mq_bo hb
    rw [Bool.not_eq_true']
    unfold enOk
    rw [Bool.and_eq_false_iff, Bool.or_eq_false_iff, Bool.or_eq_false_iff]
    rcases hs with ⟨q, a⟩ | ⟨q, a⟩
    · subst q; left; exact ⟨hox, a⟩
    · right
      have hno : ∀ y, x < y → y < w → o.testBit y = false ∧ beg o j y = false := fun y b1 b2 => by
        have := mq_lno (w := w) (o := o) (j := j) (x := x) (y := y) b1 (by omega)
        unfold bdy at this
        exact Bool.or_eq_false_iff.mp this
      have hl : o.testBit (w - 1) = false := by
        by_cases e : x = w - 1
        · rw [← e]; exact hox
        · exact (hno (w - 1) (by omega) (by omega)).1
      obtain ⟨g1, g2⟩ := mq_fo (o := o) (j := j) (w - 1) hl
      have hle := foF_le o j (w - 1)
      have e : foF o j (w - 1) = x := by
        rcases Nat.lt_trichotomy (foF o j (w - 1)) x with q | q | q
        · have := (g2 x (by omega) (by omega)).2 q
          rw [hb] at this; cases this
        · exact q
        · have := (hno _ q (by omega)).2
          rw [this] at g1; cases g1
      rw [e]
      exact ⟨hl, a⟩
theorem mq_rule {pr : Nat → Option Nat} {w o b mu ba e0 e1 j : Nat} (hw : 1 ≤ w) (hj : j < 2 ^ w) (hj2 : j % 2 = 0) : ruF pr w o b mu ba e0 e1 j = if decide (j &&& (o ||| o <<< 1) = 0) = false then 1 else if (decide (j &&& mu = mu) && decide (j &&& ba = 0)) = false then 2 else rpS pr w o b e0 e1 j w := by
  have k1 := mq_wi (o := o) hj hj2
  have k2 : (ndf mu j ≠ 0 ∨ ba &&& j ≠ 0) ↔ (decide (j &&& mu = mu) && decide (j &&& ba = 0)) = false := by
    rw [Bool.and_eq_false_iff, decide_eq_false_iff_not, decide_eq_false_iff_not, ← mq_must (mu := mu) (j := j), Nat.and_comm j ba]
  have k3 : rpS pr w o b e0 e1 j w = if anyN (spc pr w o b j 3) w then 3 else if !enOk w o j e0 e1 then 4 else if anyN (spc pr w o b j 5) w then 5 else if anyN (spc pr w o b j 6) w then 6 else 0 := by
    unfold rpS RR
    rw [← mq_ends hw]
  unfold ruF
  rw [k1, k3]
  by_cases a1 : decide (j &&& (o ||| o <<< 1) = 0) = false
  · rw [if_pos a1, if_pos (by rw [a1]; rfl)]
  · rw [if_neg a1, if_neg (by simpa using a1)]
    by_cases a2 : ndf mu j ≠ 0 ∨ ba &&& j ≠ 0
    · rw [if_pos a2, if_pos (k2.mp a2)]
    · rw [if_neg a2, if_neg (fun q => a2 (k2.mpr q))]
theorem mq_RR {a b c d : Bool} : RR a b c d = 0 ↔ (a = false ∧ b = false ∧ c = false ∧ d = false) := by
  cases a <;> cases b <;> cases c <;> cases d <;> decide
theorem mq_anyf {f : Nat → Bool} {N : Nat} : anyN f N = false ↔ ∀ x, x < N → f x = false := by
  rw [← Bool.not_eq_true, mq_any]
  constructor
  · intro h x hx
    cases hq : f x with
    | false => rfl
    | true => exact absurd ⟨x, hx, hq⟩ h
  · rintro h ⟨x, hx, hq⟩
    rw [h x hx] at hq
    cases hq
section MQR
variable {pr : Nat → Option Nat} {w o b e0 e1 j N : Nat}
theorem mq_rp : rpS pr w o b e0 e1 j N = 0 ↔ ∀ x, x < N → beg o j x = true → rbP pr w b e0 e1 x (lenF w o j x) = 0 := by
  unfold rpS
  rw [mq_RR, mq_anyf, mq_anyf, mq_anyf, mq_anyf]
  have e : ∀ x, rbP pr w b e0 e1 x (lenF w o j x) = RR (brk pr b x (lenF w o j x) 3) (r4T w e0 e1 x (lenF w o j x)) (brk pr b x (lenF w o j x) 5) (brk pr b x (lenF w o j x) 6) := fun x => rfl
  constructor
  · rintro ⟨a3, a4, a5, a6⟩ x hx hb
    rw [e, mq_RR]
    refine ⟨?_, ?_, ?_, ?_⟩
    · have := a3 x hx; unfold spc at this; rw [hb] at this; exact this
    · have := a4 x hx; unfold sp4 at this; rw [hb] at this; exact this
    · have := a5 x hx; unfold spc at this; rw [hb] at this; exact this
    · have := a6 x hx; unfold spc at this; rw [hb] at this; exact this
  · intro h
    refine ⟨fun x hx => ?_, fun x hx => ?_, fun x hx => ?_, fun x hx => ?_⟩
    · unfold spc
      cases hb : beg o j x with
      | false => rfl
      | true => exact (mq_RR.mp ((e x).symm.trans (h x hx hb))).1
    · unfold sp4
      cases hb : beg o j x with
      | false => rfl
      | true => exact (mq_RR.mp ((e x).symm.trans (h x hx hb))).2.1
    · unfold spc
      cases hb : beg o j x with
      | false => rfl
      | true => exact (mq_RR.mp ((e x).symm.trans (h x hx hb))).2.2.1
    · unfold spc
      cases hb : beg o j x with
      | false => rfl
      | true => exact (mq_RR.mp ((e x).symm.trans (h x hx hb))).2.2.2
theorem mq_rpn (h : rpS pr w o b e0 e1 j N ≠ 0) : ∃ x, x < N ∧ beg o j x = true ∧ rbP pr w b e0 e1 x (lenF w o j x) ≠ 0 := by
  apply Classical.byContradiction
  intro q
  apply h
  rw [mq_rp]
  intro x hx hb
  exact Classical.byContradiction (fun r => q ⟨x, hx, hb, r⟩)
theorem mq_cbco (h0 : rpS pr w o b e0 e1 j w = 0) : sumN (cbT pr w o b e0 e1 j) w = coF pr w o j := by
  refine sumN_congr w (fun x hx => ?_)
  unfold cbT coT
  cases hb : beg o j x with
  | false => rfl
  | true =>
    have := mq_rp.mp h0 x hx hb
    unfold pcst
    rw [if_pos this]
theorem mq_cbbig (h0 : rpS pr w o b e0 e1 j w ≠ 0) : 1000000 ≤ sumN (cbT pr w o b e0 e1 j) w := by
  obtain ⟨x, hx, hb, hr⟩ := mq_rpn h0
  have h1 := mq_ge (f := cbT pr w o b e0 e1 j) hx
  have h2 : cbT pr w o b e0 e1 j x = 1000000 := by unfold cbT pcst; rw [if_pos hb, if_neg hr]
  omega
end MQR
theorem mq_fc {w n lap : Nat} {op mu ba la en : Nat → Nat} {pr : Nat → Option Nat} {ci i : Nat} (hG : GOK w n lap op mu ba la en pr) (hi : i < 2 ^ (w - 1)) : (fcC w op mu ba en pr ci i < 1000000 ↔ rg w op mu ba en pr ci i = true) ∧ (rg w op mu ba en pr ci i = true → fcC w op mu ba en pr ci i = coF pr w (op ci) (2 * i)) := by
  obtain ⟨g1, g2, g3, g4, g5, g6, g7, g8, g9, g10, g11, _⟩ := hG
  have eh : 2 ^ w = 2 * 2 ^ (w - 1) := by conv => (lhs; rw [show w = (w - 1) + 1 by omega, Nat.pow_succ, Nat.mul_comm])
  have hco := coF_le g11 g2 (op ci) (2 * i)
  have ef : fcC w op mu ba en pr ci i = if kpF (op ci) (mu ci) (ba ci) (2 * i) then min 1000000 (sumN (cbT pr w (op ci) (bl op ci) (en (ci % 2 * 2)) (en (ci % 2 * 2 + 1)) (2 * i)) w) else 1000000 := rfl
  have er : rg w op mu ba en pr ci i = true ↔ kpF (op ci) (mu ci) (ba ci) (2 * i) = true ∧ rpS pr w (op ci) (bl op ci) (en (ci % 2 * 2)) (en (ci % 2 * 2 + 1)) (2 * i) w = 0 := by
    unfold rg kpF
    rw [beq_iff_eq, mq_rule (by omega) (by omega) (Nat.mul_mod_right 2 i)]
    cases decide (2 * i &&& (op ci ||| op ci <<< 1) = 0) <;> cases (decide (2 * i &&& mu ci = mu ci) && decide (2 * i &&& ba ci = 0)) <;> simp
  have key : rg w op mu ba en pr ci i = true → fcC w op mu ba en pr ci i = coF pr w (op ci) (2 * i) := by
    intro h
    obtain ⟨a, b⟩ := er.mp h
    rw [ef, a, if_pos rfl, mq_cbco b, Nat.min_eq_right (by omega)]
  refine ⟨⟨fun h => ?_, fun h => by rw [key h]; omega⟩, key⟩
  rw [er]
  cases hk : kpF (op ci) (mu ci) (ba ci) (2 * i) with
  | false =>
    rw [ef, hk, if_neg (by decide)] at h
    omega
  | true =>
    refine ⟨rfl, ?_⟩
    rw [ef, hk, if_pos rfl] at h
    rcases Nat.eq_zero_or_pos (rpS pr w (op ci) (bl op ci) (en (ci % 2 * 2)) (en (ci % 2 * 2 + 1)) (2 * i) w) with q | q
    · exact q
    · have := mq_cbbig (pr := pr) (w := w) (o := op ci) (b := bl op ci) (e0 := en (ci % 2 * 2)) (e1 := en (ci % 2 * 2 + 1)) (j := 2 * i) (by omega)
      omega
/-! the wall that costs least: the class's tables over subsets and the reference's lists of rows -/
theorem mq_ar2 {i y : Nat} : ∀ z, (arG (2 * i) z).testBit (y + 1) = (arG i z).testBit y
  | 0 => mq_tb2
  | z + 1 => by
    unfold arG
    by_cases e : z = 0
    · rw [if_pos e, if_pos e]; exact mq_tb2
    · rw [if_neg e, if_neg e, Nat.testBit_or, Nat.testBit_or, Nat.testBit_or, Nat.testBit_or, mq_ar2 z, Nat.testBit_shiftLeft, Nat.testBit_shiftLeft, Nat.testBit_shiftRight, Nat.testBit_shiftRight]
      have h1 : (2 * i).testBit (z + (y + 1)) = i.testBit (z + y) := mq_tb2 (y := z + y)
      rw [h1]
      by_cases q : z ≤ y
      · have h2 : (2 * i).testBit (y + 1 - z) = i.testBit (y - z) := by rw [show y + 1 - z = (y - z) + 1 by omega]; exact mq_tb2
        rw [h2, decide_eq_true (show y + 1 ≥ z by omega), decide_eq_true (show y ≥ z by omega)]
      · rw [decide_eq_false (show ¬ y ≥ z by omega)]
        by_cases q2 : y + 1 = z
        · rw [show y + 1 - z = 0 by omega, mq_tb20]; simp
        · rw [decide_eq_false (show ¬ y + 1 ≥ z by omega)]; simp
theorem mq_cm {z i i' : Nat} : cmpt z i i' = true ↔ i' &&& arG i z = 0 := by
  unfold cmpt
  rw [beq_iff_eq]
  constructor
  · intro h
    apply Nat.eq_of_testBit_eq
    intro y
    have := congrArg (fun v => v.testBit (y + 1)) h
    simp only [Nat.testBit_and, mq_ar2, mq_tb2, Nat.zero_testBit] at this
    rw [Nat.testBit_and, Nat.zero_testBit]
    exact this
  · intro h
    apply Nat.eq_of_testBit_eq
    intro y
    rw [Nat.testBit_and, Nat.zero_testBit]
    cases y with
    | zero => rw [mq_tb20]; rfl
    | succ y =>
      have := congrArg (fun v => v.testBit y) h
      simp only [Nat.testBit_and, Nat.zero_testBit] at this
      rw [mq_ar2, mq_tb2]
      exact this
theorem mq_arb {i y : Nat} : ∀ z, (arG i (z + 1)).testBit y = true ↔ ∃ k, k ≤ z ∧ (i.testBit (y + k) = true ∨ (k ≤ y ∧ i.testBit (y - k) = true))
  | 0 => by
    have e : arG i (0 + 1) = i := rfl
    rw [e]
    constructor
    · intro h
      exact ⟨0, Nat.le_refl _, Or.inl h⟩
    · rintro ⟨k, h1, h2⟩
      have : k = 0 := by omega
      subst this
      rcases h2 with h | h
      · exact h
      · exact h.2
  | z + 1 => by
    have e : arG i (z + 1 + 1) = arG i (z + 1) ||| (i <<< (z + 1) ||| i >>> (z + 1)) := by
      conv => lhs; unfold arG
      rw [if_neg (by omega)]
    rw [e, Nat.testBit_or, Nat.testBit_or, Bool.or_eq_true, Bool.or_eq_true, mq_arb z, Nat.testBit_shiftLeft, Nat.testBit_shiftRight, Bool.and_eq_true, decide_eq_true_eq]
    constructor
    · rintro (⟨k, h1, h2⟩ | h | h)
      · exact ⟨k, by omega, h2⟩
      · exact ⟨z + 1, Nat.le_refl _, Or.inr ⟨h.1, h.2⟩⟩
      · exact ⟨z + 1, Nat.le_refl _, Or.inl (by rw [Nat.add_comm y]; exact h)⟩
    · rintro ⟨k, h1, h2⟩
      by_cases q : k = z + 1
      · subst q
        right
        rcases h2 with h | h
        · right; rw [Nat.add_comm (z + 1)]; exact h
        · left; exact h
      · left; exact ⟨k, by omega, h2⟩
theorem mq_sym {i i' z : Nat} (hz : 1 ≤ z) (h : i' &&& arG i z = 0) : i &&& arG i' z = 0 := by
  obtain ⟨z, rfl⟩ : ∃ q, z = q + 1 := ⟨z - 1, by omega⟩
  apply Nat.eq_of_testBit_eq
  intro y
  rw [Nat.testBit_and, Nat.zero_testBit]
  cases hy : i.testBit y with
  | false => rfl
  | true =>
    cases hr : (arG i' (z + 1)).testBit y with
    | false => rfl
    | true =>
      exfalso
      obtain ⟨k, h1, h2⟩ := (mq_arb z).mp hr
      rcases h2 with h2 | ⟨h3, h2⟩
      · have h4 : (arG i (z + 1)).testBit (y + k) = true := (mq_arb z).mpr ⟨k, h1, Or.inr ⟨by omega, by rw [Nat.add_sub_cancel]; exact hy⟩⟩
        have := congrArg (fun v => v.testBit (y + k)) h
        simp [Nat.testBit_and, h2, h4] at this
      · have h4 : (arG i (z + 1)).testBit (y - k) = true := (mq_arb z).mpr ⟨k, h1, Or.inl (by rw [Nat.sub_add_cancel h3]; exact hy)⟩
        have := congrArg (fun v => v.testBit (y - k)) h
        simp [Nat.testBit_and, h2, h4] at this
theorem mq_ap {w i i' z : Nat} (hi : i' < 2 ^ (w - 1)) : ndf i' (apF w i z) = 0 ↔ i' &&& arG i z = 0 := by
  rw [mq_and]
  unfold apF
  constructor
  · intro h
    apply Nat.eq_of_testBit_eq
    intro y
    rw [Nat.testBit_and, Nat.zero_testBit]
    cases hy : i'.testBit y with
    | false => rfl
    | true =>
      have := h y hy
      rw [ndf_bit, Bool.and_eq_true, Bool.not_eq_true'] at this
      rw [this.2]; rfl
  · intro h y hy
    rw [ndf_bit, Nat.testBit_two_pow_sub_one]
    have := congrArg (fun v => v.testBit y) h
    simp only [Nat.testBit_and, hy, Bool.true_and, Nat.zero_testBit] at this
    rw [this, decide_eq_true (mq_lt hi hy)]; rfl
theorem mq_full {t i : Nat} (h : i < 2 ^ t) : ndf i (2 ^ t - 1) = 0 := by
  rw [mq_and]
  intro y hy
  rw [Nat.testBit_two_pow_sub_one]
  exact decide_eq_true (mq_lt h hy)
theorem mq_zml {f : Nat → Nat} : ∀ t S S', (∀ y, Nat.testBit S' y = true → Nat.testBit S y = true) → (∀ y, t ≤ y → Nat.testBit S' y = Nat.testBit S y) → zm f t S ≤ f S'
  | 0, S, S', h1, h2 => by
    have e : S' = S := Nat.eq_of_testBit_eq (fun y => h2 y (Nat.zero_le y))
    rw [e]; exact Nat.le_refl _
  | t + 1, S, S', h1, h2 => by
    cases hb : S.testBit t with
    | false =>
      rw [zm_f hb]
      refine mq_zml t S S' h1 (fun y hy => ?_)
      by_cases e : y = t
      · subst e
        rw [hb]
        cases hq : S'.testBit y with
        | false => rfl
        | true => rw [h1 y hq] at hb; cases hb
      · exact h2 y (by omega)
    | true =>
      rw [zm_t hb]
      cases hq : S'.testBit t with
      | true => exact Nat.le_trans (Nat.min_le_left _ _) (mq_zml t S S' h1 (fun y hy => if e : y = t then (by rw [e, hb, hq]) else h2 y (by omega)))
      | false =>
        refine Nat.le_trans (Nat.min_le_right _ _) (mq_zml t _ S' (fun y hy => ?_) (fun y hy => ?_))
        · have : ¬ t = y := fun q => by rw [← q, hq] at hy; cases hy
          rw [Nat.testBit_xor, Nat.testBit_two_pow, decide_eq_false this, h1 y hy]; rfl
        · by_cases e : t = y
          · rw [← e, hq, xor_bit hb]
          · rw [Nat.testBit_xor, Nat.testBit_two_pow, decide_eq_false e, h2 y (by omega)]; simp
theorem mq_zma {f : Nat → Nat} : ∀ t S, ∃ S', (∀ y, Nat.testBit S' y = true → Nat.testBit S y = true) ∧ zm f t S = f S'
  | 0, S => ⟨S, fun _ h => h, rfl⟩
  | t + 1, S => by
    cases hb : S.testBit t with
    | false => rw [zm_f hb]; exact mq_zma t S
    | true =>
      rw [zm_t hb]
      rcases Nat.le_total (zm f t S) (zm f t (S ^^^ 2 ^ t)) with q | q
      · rw [Nat.min_eq_left q]; exact mq_zma t S
      · rw [Nat.min_eq_right q]
        obtain ⟨S', a1, a2⟩ := mq_zma (f := f) t (S ^^^ 2 ^ t)
        refine ⟨S', fun y hy => ?_, a2⟩
        have := a1 y hy
        rw [Nat.testBit_xor, Nat.testBit_two_pow] at this
        by_cases e : t = y
        · rw [← e]; exact hb
        · rw [decide_eq_false e] at this; simpa using this
theorem mq_lsl {R : List Nat} {p : Nat → Bool} {f : Nat → Nat} : ∀ {init i : Nat}, i ∈ R → p i = true → lsL R p f init ≤ f i := by
  induction R with
  | nil => intro init i h; cases h
  | cons a R ih =>
    intro init i h hp
    have e : lsL (a :: R) p f init = lsL R p f (if p a then (if f a < init then f a else init) else init) := rfl
    rw [e]
    rcases List.mem_cons.mp h with q | q
    · subst q
      refine Nat.le_trans lsL_le ?_
      rw [if_pos hp]
      split <;> omega
    · exact ih q hp
/-- over the rows of a course: the class's least within a set is the reference's least -/
theorem mq_min {t S : Nat} {R : List Nat} {p r : Nat → Bool} {F f : Nat → Nat} (hS : S < 2 ^ t) (hR : ∀ i, i ∈ R ↔ i < 2 ^ t ∧ r i = true) (hF : ∀ i, i < 2 ^ t → F i = if r i then (if f i = 1000000000 then 1000000 else f i) else 1000000) (hf : ∀ i, f i = 1000000000 ∨ f i ≤ 8000) (hp : ∀ i, i < 2 ^ t → (p i = true ↔ ndf i S = 0)) : zm F t S = if lsL R p f 1000000000 = 1000000000 then 1000000 else lsL R p f 1000000000 := by
  obtain ⟨S', a1, a2⟩ := mq_zma (f := F) t S
  have hS' : S' < 2 ^ t := Nat.lt_of_le_of_lt (Nat.le_of_testBit a1) hS
  have low : ∀ i, i < 2 ^ t → p i = true → zm F t S ≤ F i := fun i hi hpi => mq_zml t S i (mq_and.mp ((hp i hi).mp hpi)) (fun y hy => by
    have p2 : 2 ^ t ≤ 2 ^ y := Nat.pow_le_pow_right (by decide) hy
    rw [Nat.testBit_lt_two_pow (by omega), Nat.testBit_lt_two_pow (by omega)])
  have hpS : p S' = true := (hp S' hS').mpr (mq_and.mpr a1)
  by_cases e : lsL R p f 1000000000 = 1000000000
  · rw [if_pos e, a2, hF S' hS']
    cases hr : r S' with
    | false => rw [if_neg (by decide)]
    | true =>
      have := mq_lsl (f := f) (init := 1000000000) ((hR S').mpr ⟨hS', hr⟩) hpS
      rcases hf S' with q | q
      · rw [if_pos rfl, if_pos q]
      · omega
  · rw [if_neg e]
    rcases lsL_at (R := R) (p := p) (f := f) (init := 1000000000) with q | ⟨i, b1, b2, b3⟩
    · exact absurd q e
    · obtain ⟨c1, c2⟩ := (hR i).mp b1
      have h1 := low i c1 b2
      rw [hF i c1, c2, if_pos rfl, b3, if_neg e] at h1
      have h2 : lsL R p f 1000000000 ≤ 8000 := by
        rcases hf i with q | q
        · rw [b3] at q; exact absurd q e
        · omega
      refine Nat.le_antisymm h1 ?_
      rw [a2, hF S' hS']
      cases hr : r S' with
      | false => rw [if_neg (by decide)]; omega
      | true =>
        rw [if_pos rfl]
        have := mq_lsl (f := f) (init := 1000000000) ((hR S').mpr ⟨hS', hr⟩) hpS
        split <;> omega
section MQB
variable {w n lap : Nat} {op mu ba la en : Nat → Nat} {pr : Nat → Option Nat} {z : Nat}
theorem mq_rws {c i : Nat} : i ∈ rws w op mu ba en pr c ↔ i < 2 ^ (w - 1) ∧ rg w op mu ba en pr c i = true := by
  unfold rws rgL
  rw [List.mem_filter, List.mem_range]
theorem mq_lf (hpr : ∀ i q, pr i = some q → q ≤ 99) (hw : w ≤ 10) : ∀ d c i, lfS w op mu ba en pr z d c i = 1000000000 ∨ lfS w op mu ba en pr z d c i ≤ 1000 * (d + 1)
  | 0, c, i => Or.inr (by
    have := coF_le hpr hw (op c) (2 * i)
    show coF pr w (op c) (2 * i) ≤ _
    omega)
  | d + 1, c, i => by
    have h0 := coF_le hpr hw (op c) (2 * i)
    show addc _ _ = _ ∨ addc _ _ ≤ _
    unfold addc
    split
    · left; rfl
    · next e =>
      right
      rcases lsL_at (R := rws w op mu ba en pr (c + 1)) (p := cmpt z i) (f := lfS w op mu ba en pr z d (c + 1)) (init := 1000000000) with q | ⟨i', b1, b2, b3⟩
      · exact absurd q e
      · rcases mq_lf hpr hw d (c + 1) i' with q | q
        · rw [b3] at q; exact absurd q e
        · rw [b3] at q; omega
theorem mq_lf8 (hpr : ∀ i q, pr i = some q → q ≤ 99) (hw : w ≤ 10) {d : Nat} (hd : d < 8) (c i : Nat) : lfS w op mu ba en pr z d c i = 1000000000 ∨ lfS w op mu ba en pr z d c i ≤ 8000 := by
  rcases mq_lf (op := op) (mu := mu) (ba := ba) (en := en) (z := z) hpr hw d c i with q | q
  · exact Or.inl q
  · right; omega
theorem mq_pj (hG : GOK w n lap op mu ba la en pr) : ∀ d, d < n → ∀ i, i < 2 ^ (w - 1) → pjF w (fcC w op mu ba en pr) (pwT w n op mu ba en pr z d) (n - 1 - d) z i = if rg w op mu ba en pr (n - 1 - d) i then (if lfS w op mu ba en pr z d (n - 1 - d) i = 1000000000 then 1000000 else lfS w op mu ba en pr z d (n - 1 - d) i) else 1000000
  | 0, hd, i, hi => by
    obtain ⟨f1, f2⟩ := mq_fc (ci := n - 1 - 0) hG hi
    have hco := coF_le hG.2.2.2.2.2.2.2.2.2.2.1 hG.2.1 (op (n - 1 - 0)) (2 * i)
    unfold pjF
    have e0 : pwT w n op mu ba en pr z 0 (apF w i z) = 0 := rfl
    have e1 : lfS w op mu ba en pr z 0 (n - 1 - 0) i = coF pr w (op (n - 1 - 0)) (2 * i) := rfl
    rw [e0, e1]
    cases hr : rg w op mu ba en pr (n - 1 - 0) i with
    | false =>
      rw [if_neg (by decide)]
      have : ¬ fcC w op mu ba en pr (n - 1 - 0) i < 1000000 := fun q => by rw [f1.mp q] at hr; cases hr
      omega
    | true =>
      rw [if_pos rfl, if_neg (by omega), f2 hr]
      omega
  | d + 1, hd, i, hi => by
    have g2 := hG.2.1
    have g3 := hG.2.2.1
    have g11 := hG.2.2.2.2.2.2.2.2.2.2.1
    obtain ⟨f1, f2⟩ := mq_fc (ci := n - 1 - (d + 1)) hG hi
    have hco := coF_le g11 g2 (op (n - 1 - (d + 1))) (2 * i)
    have ec : n - 1 - (d + 1) + 1 = n - 1 - d := by omega
    have hm := mq_min (t := w - 1) (S := apF w i z) (R := rws w op mu ba en pr (n - 1 - d)) (p := cmpt z i) (r := rg w op mu ba en pr (n - 1 - d)) (F := pjF w (fcC w op mu ba en pr) (pwT w n op mu ba en pr z d) (n - 1 - d) z) (f := lfS w op mu ba en pr z d (n - 1 - d)) (apF_lt hG.1) (fun _ => mq_rws) (mq_pj hG d (by omega)) (mq_lf8 g11 g2 (by omega) _) (fun i' hi' => by rw [mq_cm, mq_ap hi'])
    have e0 : pwT w n op mu ba en pr z (d + 1) (apF w i z) = zm (pjF w (fcC w op mu ba en pr) (pwT w n op mu ba en pr z d) (n - 1 - d) z) (w - 1) (apF w i z) := rfl
    have e1 : lfS w op mu ba en pr z (d + 1) (n - 1 - (d + 1)) i = addc (lsL (rws w op mu ba en pr (n - 1 - d)) (cmpt z i) (lfS w op mu ba en pr z d (n - 1 - d)) 1000000000) (coF pr w (op (n - 1 - (d + 1))) (2 * i)) := by
      rw [← ec]
      rfl
    have hL : lsL (rws w op mu ba en pr (n - 1 - d)) (cmpt z i) (lfS w op mu ba en pr z d (n - 1 - d)) 1000000000 = 1000000000 ∨ lsL (rws w op mu ba en pr (n - 1 - d)) (cmpt z i) (lfS w op mu ba en pr z d (n - 1 - d)) 1000000000 ≤ 8000 := by
      rcases lsL_at (R := rws w op mu ba en pr (n - 1 - d)) (p := cmpt z i) (f := lfS w op mu ba en pr z d (n - 1 - d)) (init := 1000000000) with q | ⟨i', b1, b2, b3⟩
      · exact Or.inl q
      · rw [← b3]; exact mq_lf8 g11 g2 (by omega) _ _
    unfold pjF
    rw [e0, hm, e1]
    unfold addc
    cases hr : rg w op mu ba en pr (n - 1 - (d + 1)) i with
    | false =>
      rw [if_neg (show ¬ false = true by decide)]
      have : ¬ fcC w op mu ba en pr (n - 1 - (d + 1)) i < 1000000 := fun q => by rw [f1.mp q] at hr; cases hr
      omega
    | true =>
      rw [if_pos (show true = true from rfl), f2 hr]
      by_cases q : lsL (rws w op mu ba en pr (n - 1 - d)) (cmpt z i) (lfS w op mu ba en pr z d (n - 1 - d)) 1000000000 = 1000000000
      · have k9 : (if (1000000000 : Nat) = 1000000000 then (1000000 : Nat) else 1000000000) = 1000000 := if_pos rfl
        rw [if_pos q, if_pos q, k9]
        exact Nat.min_eq_left (Nat.le_add_left _ _)
      · rw [if_neg q, if_neg q]
        rcases hL with hL | hL
        · exact absurd hL q
        · rw [if_neg (by omega), Nat.min_eq_right (by omega), Nat.add_comm]
theorem mq_bs (hG : GOK w n lap op mu ba la en pr) : bsS w op mu ba en pr n z = 1000000000 ∨ bsS w op mu ba en pr n z ≤ 8000 := by
  have g3 := hG.2.2.1
  unfold bsS
  by_cases e : n = 0
  · rw [if_pos e]; right; omega
  · rw [if_neg e]
    rcases lsL_at (R := rws w op mu ba en pr 0) (p := fun _ => true) (f := lfS w op mu ba en pr z (n - 1) 0) (init := 1000000000) with q | ⟨i', b1, b2, b3⟩
    · exact Or.inl q
    · rw [← b3]; exact mq_lf8 hG.2.2.2.2.2.2.2.2.2.2.1 hG.2.1 (by omega) _ _
theorem mq_best (hG : GOK w n lap op mu ba la en pr) : pwT w n op mu ba en pr z n (2 ^ (w - 1) - 1) = if bsS w op mu ba en pr n z = 1000000000 then 1000000 else bsS w op mu ba en pr n z := by
  have p0 : 0 < 2 ^ (w - 1) := Nat.pow_pos (by decide)
  have g3 := hG.2.2.1
  by_cases e : n = 0
  · have e1 : bsS w op mu ba en pr n z = 0 := by unfold bsS; rw [if_pos e]
    rw [e1, if_neg (by decide), e]
    rfl
  · have e1 : bsS w op mu ba en pr n z = lsL (rws w op mu ba en pr 0) (fun _ => true) (lfS w op mu ba en pr z (n - 1) 0) 1000000000 := by unfold bsS; rw [if_neg e]
    have hpj := mq_pj (z := z) hG (n - 1) (by omega)
    have e2 : n - 1 - (n - 1) = 0 := Nat.sub_self _
    rw [e2] at hpj
    have hm := mq_min (t := w - 1) (S := 2 ^ (w - 1) - 1) (R := rws w op mu ba en pr 0) (p := fun _ => true) (r := rg w op mu ba en pr 0) (F := pjF w (fcC w op mu ba en pr) (pwT w n op mu ba en pr z (n - 1)) 0 z) (f := lfS w op mu ba en pr z (n - 1) 0) (by omega) (fun _ => mq_rws) hpj (mq_lf8 hG.2.2.2.2.2.2.2.2.2.2.1 hG.2.1 (by omega) _) (fun i' hi' => ⟨fun _ => mq_full hi', fun _ => rfl⟩)
    rw [e1, ← hm]
    have e3 : pwT w n op mu ba en pr z ((n - 1) + 1) (2 ^ (w - 1) - 1) = zm (pjF w (fcC w op mu ba en pr) (pwT w n op mu ba en pr z (n - 1)) (n - 1 - (n - 1)) z) (w - 1) (2 ^ (w - 1) - 1) := rfl
    rw [show (n - 1) + 1 = n by omega, e2] at e3
    exact e3
theorem mq_cheap {f : Nat → Nat} {al i0 : Nat} (h1 : f i0 < 1000000) (h2 : ∀ i, i < i0 → ndf i al = 0 → f i0 < f i) : ∀ N, N ≤ i0 → f i0 < (chG f al N).2
  | 0, _ => h1
  | N + 1, h => by
    have ih := mq_cheap h1 h2 N (by omega)
    by_cases a : ndf N al = 0
    · by_cases b : f N < (chG f al N).2
      · rw [chG_t a b]; exact h2 N (by omega) a
      · rw [chG_f2 (by omega)]; exact ih
    · rw [chG_f1 a]; exact ih
theorem mq_cheap2 {f : Nat → Nat} {al i0 M : Nat} (h0 : ndf i0 al = 0) (h1 : f i0 < 1000000) (h2 : ∀ i, i < i0 → ndf i al = 0 → f i0 < f i) (h3 : ∀ i, ndf i al = 0 → i < M → f i0 ≤ f i) : ∀ N, i0 < N → N ≤ M → chG f al N = (i0, f i0)
  | 0, h, _ => absurd h (Nat.not_lt_zero _)
  | N + 1, h, hM => by
    by_cases e : i0 = N
    · subst e
      exact chG_t h0 (mq_cheap h1 h2 i0 (Nat.le_refl _))
    · have ih := mq_cheap2 h0 h1 h2 h3 N (by omega) (by omega)
      by_cases a : ndf N al = 0
      · rw [chG_f2 (by rw [ih]; exact h3 N a (by omega)), ih]
      · rw [chG_f1 a, ih]
theorem mq_first {p : Nat → Bool} {i : Nat} : ∀ {R : List Nat}, R.Pairwise (· < ·) → i ∈ R → p i = true → (R.find? p).getD 0 ≤ i
  | [], _, h, _ => by cases h
  | a :: R, hR, h, hp => by
    cases hb : p a with
    | true =>
      rw [List.find?_cons_of_pos hb]
      show a ≤ i
      rcases List.mem_cons.mp h with q | q
      · omega
      · have := List.rel_of_pairwise_cons hR q
        omega
    | false =>
      rw [List.find?_cons_of_neg (by rw [hb]; decide)]
      refine mq_first (List.Pairwise.of_cons hR) ?_ hp
      rcases List.mem_cons.mp h with q | q
      · rw [q, hb] at hp; cases hp
      · exact q
theorem mq_left (h : bsS w op mu ba en pr n z ≠ 1000000000) : ∀ c, c < n → ∀ i, i ∈ rws w op mu ba en pr c → (2 * i) &&& (bsT w op mu ba en pr n z c).2 = 0 → (bsT w op mu ba en pr n z c).1 ≤ lfS w op mu ba en pr z (n - 1 - c) c i
  | 0, hc, i, hi, _ => by
    have h2 : (bsT w op mu ba en pr n z 0).1 = lsL (rws w op mu ba en pr 0) (fun _ => true) (lfS w op mu ba en pr z (n - 1) 0) 1000000000 := by
      show bsS w op mu ba en pr n z = _
      unfold bsS; rw [if_neg (by omega)]
    rw [h2]
    exact mq_lsl hi rfl
  | c + 1, hc, i, hi, hn => by
    have hB := BEx_all h c (by omega)
    obtain ⟨h1, h2, h3⟩ := BEx_in hB
    have hd : n - 1 - c = (n - 1 - (c + 1)) + 1 := by omega
    have h4 : addc (lsL (rws w op mu ba en pr (c + 1)) (cmpt z (bsR w op mu ba en pr n z c)) (lfS w op mu ba en pr z (n - 1 - (c + 1)) (c + 1)) 1000000000) (coF pr w (op c) (2 * bsR w op mu ba en pr n z c)) = (bsT w op mu ba en pr n z c).1 := by
      rw [← h2, hd]; rfl
    have h5 : lsL (rws w op mu ba en pr (c + 1)) (cmpt z (bsR w op mu ba en pr n z c)) (lfS w op mu ba en pr z (n - 1 - (c + 1)) (c + 1)) 1000000000 ≠ 1000000000 := by
      intro e
      unfold addc at h4
      rw [if_pos e] at h4
      exact hB.1 h4.symm
    have h6 : (bsT w op mu ba en pr n z (c + 1)).1 = lsL (rws w op mu ba en pr (c + 1)) (cmpt z (bsR w op mu ba en pr n z c)) (lfS w op mu ba en pr z (n - 1 - (c + 1)) (c + 1)) 1000000000 := by
      unfold addc at h4
      rw [if_neg h5] at h4
      show (bsT w op mu ba en pr n z c).1 - coF pr w (op c) (2 * bsR w op mu ba en pr n z c) = _
      omega
    rw [h6]
    refine mq_lsl hi ?_
    unfold cmpt
    exact beq_iff_eq.mpr hn
theorem mq_ch1 (hG : GOK w n lap op mu ba la en pr) (h : bsS w op mu ba en pr n z ≠ 1000000000) {c : Nat} (hc : c < n) (hA : ∀ i, i < 2 ^ (w - 1) → (ndf i (alS w n op mu ba en pr z c) = 0 ↔ (2 * i) &&& (bsT w op mu ba en pr n z c).2 = 0)) : chS w n op mu ba en pr z c = bsR w op mu ba en pr n z c := by
  have hb := BEx_all h c hc
  have g3 := hG.2.2.1
  obtain ⟨h1, h2, h3⟩ := BEx_in hb
  obtain ⟨m1, m2⟩ := mq_rws.mp h1
  have ev : ∀ i, i < 2 ^ (w - 1) → pjT w n op mu ba en pr z c i = if rg w op mu ba en pr c i then (if lfS w op mu ba en pr z (n - 1 - c) c i = 1000000000 then 1000000 else lfS w op mu ba en pr z (n - 1 - c) c i) else 1000000 := fun i hi => by
    have := mq_pj (z := z) hG (n - 1 - c) (by omega) i hi
    rw [show n - 1 - (n - 1 - c) = c by omega] at this
    exact this
  have e0 : pjT w n op mu ba en pr z c (bsR w op mu ba en pr n z c) = (bsT w op mu ba en pr n z c).1 := by
    rw [ev _ m1, m2, if_pos rfl, h2, if_neg hb.1]
  have hsm : (bsT w op mu ba en pr n z c).1 ≤ 8000 := by
    rcases mq_lf8 (op := op) (mu := mu) (ba := ba) (en := en) (z := z) hG.2.2.2.2.2.2.2.2.2.2.1 hG.2.1 (d := n - 1 - c) (by omega) c (bsR w op mu ba en pr n z c) with q | q
    · rw [h2] at q; exact absurd q hb.1
    · rw [h2] at q; exact q
  have lo : ∀ i, i < 2 ^ (w - 1) → ndf i (alS w n op mu ba en pr z c) = 0 → (bsT w op mu ba en pr n z c).1 ≤ pjT w n op mu ba en pr z c i ∧ (i < bsR w op mu ba en pr n z c → (bsT w op mu ba en pr n z c).1 < pjT w n op mu ba en pr z c i) := by
    intro i hi hn
    rw [ev i hi]
    cases hr : rg w op mu ba en pr c i with
    | false =>
      rw [if_neg (by decide)]
      exact ⟨by omega, fun _ => by omega⟩
    | true =>
      rw [if_pos rfl]
      have k1 := mq_left h c hc i (mq_rws.mpr ⟨hi, hr⟩) ((hA i hi).mp hn)
      split
      · exact ⟨by omega, fun _ => by omega⟩
      · refine ⟨k1, fun hlt => ?_⟩
        rcases Nat.lt_or_ge (bsT w op mu ba en pr n z c).1 (lfS w op mu ba en pr z (n - 1 - c) c i) with q | q
        · exact q
        · exfalso
          have k2 : bpr w op mu ba en pr n z c (bsT w op mu ba en pr n z c) i = true := bpr_t (by omega) ((hA i hi).mp hn)
          have k3 := mq_first (p := bpr w op mu ba en pr n z c (bsT w op mu ba en pr n z c)) (R := rws w op mu ba en pr c) (List.Pairwise.filter _ List.pairwise_lt_range) (mq_rws.mpr ⟨hi, hr⟩) k2
          have k4 : bsR w op mu ba en pr n z c ≤ i := k3
          omega
  have := mq_cheap2 (f := pjT w n op mu ba en pr z c) (al := alS w n op mu ba en pr z c) (i0 := bsR w op mu ba en pr n z c) (M := 2 ^ (w - 1)) ((hA _ m1).mpr h3) (by rw [e0]; omega) (fun i hi hn => by rw [e0]; exact (lo i (by omega) hn).2 hi) (fun i hn hi => by rw [e0]; exact (lo i hi hn).1) (2 ^ (w - 1)) m1 (Nat.le_refl _)
  unfold chS
  rw [this]
theorem mq_al (hG : GOK w n lap op mu ba la en pr) (h : bsS w op mu ba en pr n z ≠ 1000000000) : ∀ c, c < n → ∀ i, i < 2 ^ (w - 1) → (ndf i (alS w n op mu ba en pr z c) = 0 ↔ (2 * i) &&& (bsT w op mu ba en pr n z c).2 = 0)
  | 0, hc, i, hi => by
    have e1 : alS w n op mu ba en pr z 0 = 2 ^ (w - 1) - 1 := rfl
    have e2 : (bsT w op mu ba en pr n z 0).2 = 0 := rfl
    rw [e1, e2]
    exact ⟨fun _ => Nat.and_zero _, fun _ => mq_full hi⟩
  | c + 1, hc, i, hi => by
    have k := mq_ch1 hG h (c := c) (by omega) (mq_al hG h c (by omega))
    have e1 : alS w n op mu ba en pr z (c + 1) = apF w (chS w n op mu ba en pr z c) z := rfl
    have e2 : (bsT w op mu ba en pr n z (c + 1)).2 = arG (2 * bsR w op mu ba en pr n z c) z := rfl
    rw [e1, e2, k, mq_ap hi, ← mq_cm]
    unfold cmpt
    rw [beq_iff_eq]
theorem mq_ch (hG : GOK w n lap op mu ba la en pr) (h : bsS w op mu ba en pr n z ≠ 1000000000) : ∀ q, q < n → chS w n op mu ba en pr z q = bsR w op mu ba en pr n z q := fun q hq => mq_ch1 hG h hq (mq_al hG h q hq)
end MQB
/-! how many walls there are, counted up and counted down; how high a wall can be -/
def mq_zn (f : Nat → Nat) : Nat → Nat → Nat
  | 0, S => f S
  | t + 1, S => if S.testBit t then mq_zn f t S + mq_zn f t (S ^^^ 2 ^ t) else mq_zn f t S
theorem mq_znf {f : Nat → Nat} {t S : Nat} (h : S.testBit t = false) : mq_zn f (t + 1) S = mq_zn f t S := by
  conv => lhs; unfold mq_zn
  rw [if_neg (by rw [h]; decide)]
theorem mq_znt {f : Nat → Nat} {t S : Nat} (h : S.testBit t = true) : mq_zn f (t + 1) S = mq_zn f t S + mq_zn f t (S ^^^ 2 ^ t) := by
  conv => lhs; unfold mq_zn
  rw [if_pos h]
theorem mq_zt {f : Nat → Int64} {g : Nat → Nat} {N : Nat} (h : ∀ S, S < N → f S = Int64.ofNat (g S)) : ∀ t S, S < N → zt f t S = Int64.ofNat (mq_zn g t S)
  | 0, S, hS => h S hS
  | t + 1, S, hS => by
    cases hb : S.testBit t with
    | false => rw [zt_f hb, mq_znf hb, mq_zt h t S hS]
    | true =>
      have := xor_lt hb
      rw [zt_t hb, mq_znt hb, mq_zt h t S hS, mq_zt h t _ (by omega), Int64.ofNat_add]
def mq_b (t S i : Nat) : Bool := decide (ndf i S = 0) && decide (i / 2 ^ t = S / 2 ^ t)
theorem mq_bi {t S i : Nat} : mq_b t S i = true ↔ (∀ y, i.testBit y = true → S.testBit y = true) ∧ (∀ y, t ≤ y → i.testBit y = S.testBit y) := by
  unfold mq_b
  rw [Bool.and_eq_true, decide_eq_true_eq, decide_eq_true_eq, mq_and]
  refine and_congr Iff.rfl ⟨fun h y hy => ?_, fun h => ?_⟩
  · have := congrArg (fun v => v.testBit (y - t)) h
    simp only [Nat.testBit_div_two_pow] at this
    rw [Nat.sub_add_cancel hy] at this
    exact this
  · apply Nat.eq_of_testBit_eq
    intro y
    rw [Nat.testBit_div_two_pow, Nat.testBit_div_two_pow]
    exact h _ (by omega)
theorem mq_bf {t S i : Nat} (h : S.testBit t = false) : mq_b (t + 1) S i = mq_b t S i := by
  rw [Bool.eq_iff_iff, mq_bi, mq_bi]
  refine ⟨fun ⟨a, b⟩ => ⟨a, fun y hy => ?_⟩, fun ⟨a, b⟩ => ⟨a, fun y hy => b y (by omega)⟩⟩
  by_cases e : y = t
  · subst e
    rw [h]
    cases hq : i.testBit y with
    | false => rfl
    | true => rw [a y hq] at h; cases h
  · exact b y (by omega)
theorem mq_xb {t S y : Nat} (h : ¬ t = y) : (S ^^^ 2 ^ t).testBit y = S.testBit y := by
  rw [Nat.testBit_xor, Nat.testBit_two_pow, decide_eq_false h]
  simp
theorem mq_bt1 {t S i : Nat} (h : S.testBit t = true) (hi : i.testBit t = true) : mq_b (t + 1) S i = mq_b t S i ∧ mq_b t (S ^^^ 2 ^ t) i = false := by
  constructor
  · rw [Bool.eq_iff_iff, mq_bi, mq_bi]
    refine ⟨fun ⟨a, b⟩ => ⟨a, fun y hy => ?_⟩, fun ⟨a, b⟩ => ⟨a, fun y hy => b y (by omega)⟩⟩
    by_cases e : y = t
    · rw [e, h, hi]
    · exact b y (by omega)
  · cases hq : mq_b t (S ^^^ 2 ^ t) i with
    | false => rfl
    | true =>
      have := (mq_bi.mp hq).1 t hi
      rw [xor_bit h] at this
      cases this
theorem mq_bt0 {t S i : Nat} (h : S.testBit t = true) (hi : i.testBit t = false) : mq_b (t + 1) S i = mq_b t (S ^^^ 2 ^ t) i ∧ mq_b t S i = false := by
  constructor
  · rw [Bool.eq_iff_iff, mq_bi, mq_bi]
    refine ⟨fun ⟨a, b⟩ => ⟨fun y hy => ?_, fun y hy => ?_⟩, fun ⟨a, b⟩ => ⟨fun y hy => ?_, fun y hy => ?_⟩⟩
    · have e : ¬ t = y := fun q => by rw [← q, hi] at hy; cases hy
      rw [mq_xb e]; exact a y hy
    · by_cases e : t = y
      · rw [← e, hi, xor_bit h]
      · rw [mq_xb e]; exact b y (by omega)
    · have e : ¬ t = y := fun q => by rw [← q, hi] at hy; cases hy
      have := a y hy
      rw [mq_xb e] at this
      exact this
    · have := b y (by omega)
      rw [mq_xb (by omega)] at this
      exact this
  · cases hq : mq_b t S i with
    | false => rfl
    | true =>
      have := (mq_bi.mp hq).2 t (Nat.le_refl _)
      rw [h, hi] at this
      cases this
theorem mq_zs {f : Nat → Nat} {N : Nat} : ∀ t S, S < N → mq_zn f t S = sumN (fun i => if mq_b t S i then f i else 0) N
  | 0, S, hS => by
    have k1 : sumN (fun i => if mq_b 0 S i then f i else 0) N = sumN (fun i => if S = i then f i else 0) N := sumN_congr N (fun i _ => by
      show (if mq_b 0 S i then f i else 0) = if S = i then f i else 0
      by_cases e : S = i
      · subst e
        rw [if_pos rfl, if_pos (mq_bi.mpr ⟨fun _ h => h, fun _ _ => rfl⟩)]
      · rw [if_neg e, if_neg (fun q => e (Nat.eq_of_testBit_eq (fun y => ((mq_bi.mp q).2 y (Nat.zero_le y)).symm)))])
    rw [k1, mq_one, if_pos hS]
    rfl
  | t + 1, S, hS => by
    cases hb : S.testBit t with
    | false =>
      rw [mq_znf hb, mq_zs t S hS]
      exact sumN_congr N (fun i _ => by
        show (if mq_b t S i then f i else 0) = if mq_b (t + 1) S i then f i else 0
        rw [mq_bf hb])
    | true =>
      have hlt := xor_lt hb
      rw [mq_znt hb, mq_zs t S hS, mq_zs (N := N) t (S ^^^ 2 ^ t) (by omega), ← mq_add]
      exact sumN_congr N (fun i _ => by
        show (if mq_b t S i then f i else 0) + (if mq_b t (S ^^^ 2 ^ t) i then f i else 0) = if mq_b (t + 1) S i then f i else 0
        cases hi : i.testBit t with
        | true =>
          obtain ⟨a, b⟩ := mq_bt1 hb hi
          rw [a, b]
          simp
        | false =>
          obtain ⟨a, b⟩ := mq_bt0 hb hi
          rw [a, b]
          simp)
theorem mq_zw {f : Nat → Nat} {t S : Nat} (hS : S < 2 ^ t) : mq_zn f t S = sumN (fun i => if ndf i S = 0 then f i else 0) (2 ^ t) := by
  rw [mq_zs t S hS]
  refine sumN_congr _ (fun i hi => ?_)
  show (if mq_b t S i then f i else 0) = if ndf i S = 0 then f i else 0
  have e : mq_b t S i = decide (ndf i S = 0) := by
    unfold mq_b
    rw [Nat.div_eq_of_lt hi, Nat.div_eq_of_lt hS]
    simp
  rw [e]
  simp
theorem mq_mono {f g : Nat → Nat} : ∀ n, (∀ q, q < n → f q ≤ g q) → sumN f n ≤ sumN g n
  | 0, _ => Nat.le_refl _
  | n + 1, h => Nat.add_le_add (mq_mono n (fun q hq => h q (by omega))) (h n (Nat.lt_succ_self n))
theorem mq_pos {f : Nat → Nat} : ∀ n, 0 < sumN f n ↔ ∃ i, i < n ∧ 0 < f i
  | 0 => ⟨fun h => absurd h (Nat.lt_irrefl 0), fun ⟨i, h, _⟩ => absurd h (Nat.not_lt_zero i)⟩
  | n + 1 => by
    show 0 < sumN f n + f n ↔ _
    constructor
    · intro h
      by_cases e : 0 < f n
      · exact ⟨n, Nat.lt_succ_self n, e⟩
      · obtain ⟨i, h1, h2⟩ := (mq_pos (f := f) n).mp (by omega)
        exact ⟨i, by omega, h2⟩
    · rintro ⟨i, h1, h2⟩
      have := mq_ge (f := f) (x := i) (n := n + 1) h1
      have k : sumN f (n + 1) = sumN f n + f n := rfl
      omega
theorem mq_wyL {q p : Nat → Bool} {f : Nat → Int64} {g : Nat → Nat} (h : ∀ i, f i = Int64.ofNat (g i)) : ∀ N, wyL ((List.range N).filter q) p f 0 = Int64.ofNat (sumN (fun i => if q i && p i then g i else 0) N)
  | 0 => rfl
  | N + 1 => by
    have ih := mq_wyL (q := q) (p := p) h N
    unfold wyL at ih ⊢
    rw [List.range_succ, List.filter_append, List.foldl_append, ih]
    have k : sumN (fun i => if q i && p i then g i else 0) (N + 1) = sumN (fun i => if q i && p i then g i else 0) N + (if q N && p N then g N else 0) := rfl
    rw [k]
    cases hq : q N with
    | false => simp [List.filter_cons, hq]
    | true =>
      cases hp : p N with
      | false => simp [List.filter_cons, hq, hp]
      | true => simp [List.filter_cons, hq, hp, h]
section MQW
variable {w n lap : Nat} {op mu ba la en : Nat → Nat} {pr : Nat → Option Nat} {z : Nat}
def mq_cw (w : Nat) (op mu ba en : Nat → Nat) (pr : Nat → Option Nat) (z : Nat) : Nat → Nat → Nat
  | 0, _ => 1
  | c + 1, S => mq_zn (fun i => if rg w op mu ba en pr c i then mq_cw w op mu ba en pr z c (apF w i z) else 0) (w - 1) S
def mq_wy (w : Nat) (op mu ba en : Nat → Nat) (pr : Nat → Option Nat) (z : Nat) : Nat → Nat → Nat → Nat
  | 0, _, _ => 1
  | d + 1, c, i => sumN (fun i' => if rg w op mu ba en pr (c + 1) i' && cmpt z i i' then mq_wy w op mu ba en pr z d (c + 1) i' else 0) (2 ^ (w - 1))
theorem mq_cwT (hG : GOK w n lap op mu ba la en pr) : ∀ c, ∀ S, S < 2 ^ (w - 1) → cwT w op mu ba en pr z c S = Int64.ofNat (mq_cw w op mu ba en pr z c S)
  | 0, S, hS => rfl
  | c + 1, S, hS => by
    show zt (jsF w (fcC w op mu ba en pr) (cwT w op mu ba en pr z c) c z) (w - 1) S = Int64.ofNat (mq_zn (fun i => if rg w op mu ba en pr c i then mq_cw w op mu ba en pr z c (apF w i z) else 0) (w - 1) S)
    refine mq_zt (N := 2 ^ (w - 1)) (fun i hi => ?_) (w - 1) S hS
    obtain ⟨f1, _⟩ := mq_fc (ci := c) hG hi
    unfold jsF
    cases hr : rg w op mu ba en pr c i with
    | false =>
      rw [if_neg (fun q => by rw [f1.mp q] at hr; cases hr)]
      rfl
    | true =>
      rw [if_pos (f1.mpr hr), mq_cwT hG c _ (apF_lt hG.1)]
      rfl
theorem mq_wyS : ∀ d c i, wyS w op mu ba en pr z d c i = Int64.ofNat (mq_wy w op mu ba en pr z d c i)
  | 0, _, _ => rfl
  | d + 1, c, i => mq_wyL (fun i' => mq_wyS d (c + 1) i') (2 ^ (w - 1))
theorem mq_cms {i i' : Nat} (hz : 1 ≤ z) (hi : i < 2 ^ (w - 1)) : ndf i (apF w i' z) = 0 ↔ cmpt z i i' = true := by
  rw [mq_ap hi, mq_cm]
  exact ⟨mq_sym hz, mq_sym hz⟩
theorem mq_cms2 {i i' : Nat} (hi : i < 2 ^ (w - 1)) : ndf i (apF w i' z) = 0 ↔ cmpt z i' i = true := by
  rw [mq_ap hi, mq_cm]
theorem mq_dual (hG : GOK w n lap op mu ba la en pr) (hz : 1 ≤ z) {c d : Nat} : sumN (fun i => if rg w op mu ba en pr c i then mq_cw w op mu ba en pr z c (apF w i z) * mq_wy w op mu ba en pr z (d + 1) c i else 0) (2 ^ (w - 1)) = sumN (fun i' => if rg w op mu ba en pr (c + 1) i' then mq_cw w op mu ba en pr z (c + 1) (apF w i' z) * mq_wy w op mu ba en pr z d (c + 1) i' else 0) (2 ^ (w - 1)) := by
  have k1 : sumN (fun i => if rg w op mu ba en pr c i then mq_cw w op mu ba en pr z c (apF w i z) * mq_wy w op mu ba en pr z (d + 1) c i else 0) (2 ^ (w - 1)) = sumN (fun i => sumN (fun i' => if rg w op mu ba en pr c i && (rg w op mu ba en pr (c + 1) i' && cmpt z i i') then mq_cw w op mu ba en pr z c (apF w i z) * mq_wy w op mu ba en pr z d (c + 1) i' else 0) (2 ^ (w - 1))) (2 ^ (w - 1)) := by
    refine sumN_congr _ (fun i _ => ?_)
    show (if rg w op mu ba en pr c i then mq_cw w op mu ba en pr z c (apF w i z) * mq_wy w op mu ba en pr z (d + 1) c i else 0) = sumN (fun i' => if rg w op mu ba en pr c i && (rg w op mu ba en pr (c + 1) i' && cmpt z i i') then mq_cw w op mu ba en pr z c (apF w i z) * mq_wy w op mu ba en pr z d (c + 1) i' else 0) (2 ^ (w - 1))
    cases rg w op mu ba en pr c i with
    | false => exact (mq_sum0 _ (fun _ _ => rfl)).symm
    | true =>
      rw [if_pos rfl]
      show _ * sumN (fun i' => if rg w op mu ba en pr (c + 1) i' && cmpt z i i' then mq_wy w op mu ba en pr z d (c + 1) i' else 0) (2 ^ (w - 1)) = _
      rw [Nat.mul_comm, mq_mul]
      refine sumN_congr _ (fun i' _ => ?_)
      show (if rg w op mu ba en pr (c + 1) i' && cmpt z i i' then mq_wy w op mu ba en pr z d (c + 1) i' else 0) * _ = if true && (rg w op mu ba en pr (c + 1) i' && cmpt z i i') then _ else 0
      rw [Bool.true_and]
      split
      · exact Nat.mul_comm _ _
      · exact Nat.zero_mul _
  have k2 : sumN (fun i' => if rg w op mu ba en pr (c + 1) i' then mq_cw w op mu ba en pr z (c + 1) (apF w i' z) * mq_wy w op mu ba en pr z d (c + 1) i' else 0) (2 ^ (w - 1)) = sumN (fun i' => sumN (fun i => if rg w op mu ba en pr c i && (rg w op mu ba en pr (c + 1) i' && cmpt z i i') then mq_cw w op mu ba en pr z c (apF w i z) * mq_wy w op mu ba en pr z d (c + 1) i' else 0) (2 ^ (w - 1))) (2 ^ (w - 1)) := by
    refine sumN_congr _ (fun i' _ => ?_)
    show (if rg w op mu ba en pr (c + 1) i' then mq_cw w op mu ba en pr z (c + 1) (apF w i' z) * mq_wy w op mu ba en pr z d (c + 1) i' else 0) = sumN (fun i => if rg w op mu ba en pr c i && (rg w op mu ba en pr (c + 1) i' && cmpt z i i') then mq_cw w op mu ba en pr z c (apF w i z) * mq_wy w op mu ba en pr z d (c + 1) i' else 0) (2 ^ (w - 1))
    cases rg w op mu ba en pr (c + 1) i' with
    | false => exact (mq_sum0 _ (fun i _ => by show (if rg w op mu ba en pr c i && (false && cmpt z i i') then _ else 0) = 0; rw [Bool.false_and, Bool.and_false]; rfl)).symm
    | true =>
      rw [if_pos rfl]
      have e : mq_cw w op mu ba en pr z (c + 1) (apF w i' z) = sumN (fun i => if ndf i (apF w i' z) = 0 then (if rg w op mu ba en pr c i then mq_cw w op mu ba en pr z c (apF w i z) else 0) else 0) (2 ^ (w - 1)) := mq_zw (apF_lt hG.1)
      rw [e, mq_mul]
      refine sumN_congr _ (fun i hi => ?_)
      show (if ndf i (apF w i' z) = 0 then (if rg w op mu ba en pr c i then mq_cw w op mu ba en pr z c (apF w i z) else 0) else 0) * _ = if rg w op mu ba en pr c i && (true && cmpt z i i') then _ else 0
      have hc := mq_cms (w := w) (z := z) (i := i) (i' := i') hz hi
      by_cases q : ndf i (apF w i' z) = 0
      · rw [if_pos q, hc.mp q]
        cases rg w op mu ba en pr c i <;> simp
      · have hc2 : cmpt z i i' = false := by
          cases hq : cmpt z i i' with
          | false => rfl
          | true => exact absurd (hc.mpr hq) q
        rw [if_neg q, hc2]
        cases rg w op mu ba en pr c i <;> simp
  rw [k1, k2, mq_swap]
theorem mq_chain (hG : GOK w n lap op mu ba la en pr) (hz : 1 ≤ z) : ∀ c d, sumN (fun i => if rg w op mu ba en pr 0 i then mq_cw w op mu ba en pr z 0 (apF w i z) * mq_wy w op mu ba en pr z (c + d) 0 i else 0) (2 ^ (w - 1)) = sumN (fun i => if rg w op mu ba en pr c i then mq_cw w op mu ba en pr z c (apF w i z) * mq_wy w op mu ba en pr z d c i else 0) (2 ^ (w - 1))
  | 0, d => by rw [Nat.zero_add]
  | c + 1, d => by
    rw [show c + 1 + d = c + (d + 1) by omega, mq_chain hG hz c (d + 1), mq_dual hG hz]
theorem mq_cwfull (c : Nat) : mq_cw w op mu ba en pr z (c + 1) (2 ^ (w - 1) - 1) = sumN (fun i => if rg w op mu ba en pr c i then mq_cw w op mu ba en pr z c (apF w i z) else 0) (2 ^ (w - 1)) := by
  have p0 : 0 < 2 ^ (w - 1) := Nat.pow_pos (by decide)
  have e : mq_cw w op mu ba en pr z (c + 1) (2 ^ (w - 1) - 1) = sumN (fun i => if ndf i (2 ^ (w - 1) - 1) = 0 then (if rg w op mu ba en pr c i then mq_cw w op mu ba en pr z c (apF w i z) else 0) else 0) (2 ^ (w - 1)) := mq_zw (by omega)
  rw [e]
  refine sumN_congr _ (fun i hi => ?_)
  show (if ndf i (2 ^ (w - 1) - 1) = 0 then (if rg w op mu ba en pr c i then mq_cw w op mu ba en pr z c (apF w i z) else 0) else 0) = _
  rw [if_pos (mq_full hi)]
theorem mq_walls (hG : GOK w n lap op mu ba la en pr) (hz : 1 ≤ z) : rvS w op mu ba en pr z n = wlS w op mu ba en pr n z := by
  have p0 : 0 < 2 ^ (w - 1) := Nat.pow_pos (by decide)
  unfold rvS wlS
  cases n with
  | zero => rfl
  | succ m =>
    rw [if_neg (Nat.succ_ne_zero m), mq_cwT hG (m + 1) _ (by omega), mq_cwfull]
    have e := mq_wyL (q := rg w op mu ba en pr 0) (p := fun _ => true) (fun i' => mq_wyS (w := w) (op := op) (mu := mu) (ba := ba) (en := en) (pr := pr) (z := z) (m + 1 - 1) 0 i') (2 ^ (w - 1))
    have e2 : wyL (rws w op mu ba en pr 0) (fun _ => true) (wyS w op mu ba en pr z (m + 1 - 1) 0) 0 = Int64.ofNat (sumN (fun i => if rg w op mu ba en pr 0 i && true then mq_wy w op mu ba en pr z (m + 1 - 1) 0 i else 0) (2 ^ (w - 1))) := e
    rw [e2]
    congr 1
    have k := mq_chain (z := z) hG hz m 0
    have k1 : sumN (fun i => if rg w op mu ba en pr m i then mq_cw w op mu ba en pr z m (apF w i z) * mq_wy w op mu ba en pr z 0 m i else 0) (2 ^ (w - 1)) = sumN (fun i => if rg w op mu ba en pr m i then mq_cw w op mu ba en pr z m (apF w i z) else 0) (2 ^ (w - 1)) := sumN_congr _ (fun i _ => by
      show (if rg w op mu ba en pr m i then mq_cw w op mu ba en pr z m (apF w i z) * 1 else 0) = if rg w op mu ba en pr m i then mq_cw w op mu ba en pr z m (apF w i z) else 0
      rw [Nat.mul_one])
    have k2 : sumN (fun i => if rg w op mu ba en pr 0 i then mq_cw w op mu ba en pr z 0 (apF w i z) * mq_wy w op mu ba en pr z (m + 0) 0 i else 0) (2 ^ (w - 1)) = sumN (fun i => if rg w op mu ba en pr 0 i && true then mq_wy w op mu ba en pr z (m + 1 - 1) 0 i else 0) (2 ^ (w - 1)) := sumN_congr _ (fun i _ => by
      show (if rg w op mu ba en pr 0 i then 1 * mq_wy w op mu ba en pr z (m + 0) 0 i else 0) = if rg w op mu ba en pr 0 i && true then mq_wy w op mu ba en pr z (m + 1 - 1) 0 i else 0
      rw [Nat.one_mul, Bool.and_true, Nat.add_zero, Nat.add_sub_cancel])
    rw [← k1, ← k2, k]
set_option maxRecDepth 100000 in
theorem mq_cnt : ∀ w, w < 11 → ∀ z, z < 4 → 1 ≤ z → sumN (fun i => mq_zn (fun _ => 1) (w - 1) (apF w i z)) (2 ^ (w - 1)) ≤ 19683 := by decide +kernel
def mq_B : Nat → Nat
  | 0 => 1
  | 1 => 512
  | c + 2 => 19683 * mq_B c
theorem mq_B8 : ∀ c, c < 9 → mq_B c < 2 ^ 63 := by decide
theorem mq_znk {f : Nat → Nat} {k : Nat} (h : ∀ i, f i ≤ k) : ∀ t S, mq_zn f t S ≤ k * mq_zn (fun _ => 1) t S
  | 0, S => by show f S ≤ k * 1; rw [Nat.mul_one]; exact h S
  | t + 1, S => by
    cases hb : S.testBit t with
    | false => rw [mq_znf hb, mq_znf hb]; exact mq_znk h t S
    | true =>
      rw [mq_znt hb, mq_znt hb, Nat.mul_add]
      exact Nat.add_le_add (mq_znk h t S) (mq_znk h t _)
theorem mq_cwB (hG : GOK w n lap op mu ba la en pr) (hz1 : 1 ≤ z) (hz2 : z ≤ 3) : ∀ c S, S < 2 ^ (w - 1) → mq_cw w op mu ba en pr z c S ≤ mq_B c
  | 0, S, _ => Nat.le_refl 1
  | 1, S, hS => by
    have e : mq_cw w op mu ba en pr z (0 + 1) S = sumN (fun i => if ndf i S = 0 then (if rg w op mu ba en pr 0 i then mq_cw w op mu ba en pr z 0 (apF w i z) else 0) else 0) (2 ^ (w - 1)) := mq_zw hS
    have e2 : mq_cw w op mu ba en pr z 1 S = mq_cw w op mu ba en pr z (0 + 1) S := rfl
    have k := sumN_le (f := fun i => if ndf i S = 0 then (if rg w op mu ba en pr 0 i then mq_cw w op mu ba en pr z 0 (apF w i z) else 0) else 0) (b := 1) (fun i => by
      show (if ndf i S = 0 then (if rg w op mu ba en pr 0 i then 1 else 0) else 0) ≤ 1
      split
      · split <;> omega
      · omega) (2 ^ (w - 1))
    have p9 := set_le hG.2.1
    show _ ≤ 512
    rw [e2, e]
    omega
  | c + 2, S, hS => by
    have e : mq_cw w op mu ba en pr z (c + 1 + 1) S = sumN (fun i => if ndf i S = 0 then (if rg w op mu ba en pr (c + 1) i then mq_cw w op mu ba en pr z (c + 1) (apF w i z) else 0) else 0) (2 ^ (w - 1)) := mq_zw hS
    have e2 : mq_cw w op mu ba en pr z (c + 2) S = mq_cw w op mu ba en pr z (c + 1 + 1) S := rfl
    have hin : ∀ i, mq_cw w op mu ba en pr z (c + 1) (apF w i z) ≤ mq_zn (fun _ => 1) (w - 1) (apF w i z) * mq_B c := by
      intro i
      rw [Nat.mul_comm]
      refine mq_znk (fun i' => ?_) (w - 1) _
      split
      · exact mq_cwB hG hz1 hz2 c _ (apF_lt hG.1)
      · exact Nat.zero_le _
    have k := mq_mono (f := fun i => if ndf i S = 0 then (if rg w op mu ba en pr (c + 1) i then mq_cw w op mu ba en pr z (c + 1) (apF w i z) else 0) else 0) (g := fun i => mq_zn (fun _ => 1) (w - 1) (apF w i z) * mq_B c) (2 ^ (w - 1)) (fun i _ => by
      show (if ndf i S = 0 then (if rg w op mu ba en pr (c + 1) i then mq_cw w op mu ba en pr z (c + 1) (apF w i z) else 0) else 0) ≤ mq_zn (fun _ => 1) (w - 1) (apF w i z) * mq_B c
      have := hin i
      split
      · split <;> omega
      · omega)
    rw [← mq_mul] at k
    have hc := mq_cnt w (by have := hG.2.1; omega) z (by omega) hz1
    show _ ≤ 19683 * mq_B c
    rw [e2, e]
    exact Nat.le_trans k (Nat.mul_le_mul_right _ hc)
theorem mq_rc (hG : GOK w n lap op mu ba la en pr) (hz : 1 ≤ z) : ∀ c i, 0 < mq_cw w op mu ba en pr z c (apF w i z) ↔ rcS w op mu ba en pr z c i = true
  | 0, i => ⟨fun _ => rfl, fun _ => Nat.one_pos⟩
  | c + 1, i => by
    have e : mq_cw w op mu ba en pr z (c + 1) (apF w i z) = sumN (fun i' => if ndf i' (apF w i z) = 0 then (if rg w op mu ba en pr c i' then mq_cw w op mu ba en pr z c (apF w i' z) else 0) else 0) (2 ^ (w - 1)) := mq_zw (apF_lt hG.1)
    have e2 : rcS w op mu ba en pr z (c + 1) i = (rws w op mu ba en pr c).any (fun i' => rcS w op mu ba en pr z c i' && cmpt z i' i) := rfl
    rw [e, mq_pos, e2, List.any_eq_true]
    constructor
    · rintro ⟨i', h1, h2⟩
      by_cases q : ndf i' (apF w i z) = 0
      · rw [if_pos q] at h2
        cases hr : rg w op mu ba en pr c i' with
        | false => rw [hr] at h2; exact absurd h2 (Nat.lt_irrefl 0)
        | true =>
          rw [hr, if_pos rfl] at h2
          refine ⟨i', mq_rws.mpr ⟨h1, hr⟩, ?_⟩
          rw [(mq_rc hG hz c i').mp h2, (mq_cms hz h1).mp q]
          rfl
      · rw [if_neg q] at h2
        exact absurd h2 (Nat.lt_irrefl 0)
    · rintro ⟨i', h1, h2⟩
      obtain ⟨a1, a2⟩ := mq_rws.mp h1
      rw [Bool.and_eq_true] at h2
      refine ⟨i', a1, ?_⟩
      rw [if_pos ((mq_cms hz a1).mpr h2.2), a2, if_pos rfl]
      exact (mq_rc hG hz c i').mpr h2.1
theorem mq_i64 {k : Nat} (h : k < 2 ^ 63) : 0 < Int64.ofNat k ↔ 0 < k := by
  rw [Int64.lt_iff_toInt_lt, Int64.toInt_ofNat_of_lt h, Int64.toInt_zero]
  omega
theorem mq_rvp (hG : GOK w n lap op mu ba la en pr) (hz1 : 1 ≤ z) (hz2 : z ≤ 3) {q : Nat} (hq : q < n) : 0 < rvS w op mu ba en pr z (q + 1) ↔ (rws w op mu ba en pr q).any (rcS w op mu ba en pr z q) = true := by
  have p0 : 0 < 2 ^ (w - 1) := Nat.pow_pos (by decide)
  have g3 := hG.2.2.1
  have hb := mq_cwB (z := z) hG hz1 hz2 (q + 1) (2 ^ (w - 1) - 1) (by omega)
  have hb8 := mq_B8 (q + 1) (by omega)
  unfold rvS
  rw [mq_cwT hG (q + 1) _ (by omega), mq_i64 (by omega), mq_cwfull, mq_pos, List.any_eq_true]
  constructor
  · rintro ⟨i, h1, h2⟩
    cases hr : rg w op mu ba en pr q i with
    | false => rw [hr] at h2; exact absurd h2 (Nat.lt_irrefl 0)
    | true =>
      rw [hr, if_pos rfl] at h2
      exact ⟨i, mq_rws.mpr ⟨h1, hr⟩, (mq_rc hG hz1 q i).mp h2⟩
  · rintro ⟨i, h1, h2⟩
    obtain ⟨a1, a2⟩ := mq_rws.mp h1
    exact ⟨i, a1, by rw [a2, if_pos rfl]; exact (mq_rc hG hz1 q i).mpr h2⟩
theorem mq_hg {a : Nat → Bool} (h : ∀ q, a (q + 1) = true → a q = true) : ∀ d c, hgG a d c = c + sumN (fun q => if a (c + q) then 1 else 0) d
  | 0, c => rfl
  | d + 1, c => by
    have k : sumN (fun q => if a (c + q) then 1 else 0) (1 + d) = sumN (fun q => if a (c + q) then 1 else 0) 1 + sumN (fun q => if a (c + (1 + q)) then 1 else 0) d := mq_split 1 d
    have k1 : sumN (fun q => if a (c + q) then 1 else 0) 1 = if a c then 1 else 0 := by
      show 0 + (if a (c + 0) then 1 else 0) = _
      rw [Nat.zero_add, Nat.add_zero]
    rw [Nat.add_comm d 1, k, k1]
    rw [Nat.add_comm 1 d]
    unfold hgG
    cases ha : a c with
    | true =>
      rw [if_pos rfl, if_pos rfl, mq_hg h d (c + 1), Nat.add_assoc]
      have k2 : sumN (fun q => if a (c + 1 + q) then 1 else 0) d = sumN (fun q => if a (c + (1 + q)) then 1 else 0) d := sumN_congr d (fun q _ => by
        show (if a (c + 1 + q) then 1 else 0) = if a (c + (1 + q)) then 1 else 0
        rw [Nat.add_assoc])
      rw [k2]
    | false =>
      have hf : ∀ q, a (c + q) = false := by
        intro q
        induction q with
        | zero => exact ha
        | succ q ih =>
          cases hq : a (c + (q + 1)) with
          | false => rfl
          | true => rw [h (c + q) hq] at ih; cases ih
      rw [if_neg (by decide), if_neg (by decide), mq_sum0 d (fun q _ => by show (if a (c + (1 + q)) then 1 else 0) = 0; rw [hf]; rfl)]
      omega
theorem mq_high (hG : GOK w n lap op mu ba la en pr) (hz1 : 1 ≤ z) (hz2 : z ≤ 3) : rcN w op mu ba en pr z n = hgG (fun q => (rws w op mu ba en pr q).any (rcS w op mu ba en pr z q)) n 0 := by
  rw [mq_hg (a := fun q => (rws w op mu ba en pr q).any (rcS w op mu ba en pr z q)) (fun q hq => ?_) n 0, Nat.zero_add]
  · unfold rcN
    refine sumN_congr n (fun q hq => ?_)
    show (if 0 < rvS w op mu ba en pr z (q + 1) then 1 else 0) = if (rws w op mu ba en pr (0 + q)).any (rcS w op mu ba en pr z (0 + q)) then 1 else 0
    rw [Nat.zero_add]
    by_cases e : 0 < rvS w op mu ba en pr z (q + 1)
    · rw [if_pos e, if_pos ((mq_rvp hG hz1 hz2 hq).mp e)]
    · rw [if_neg e, if_neg (fun r => e ((mq_rvp hG hz1 hz2 hq).mpr r))]
  · obtain ⟨i, h1, h2⟩ := List.any_eq_true.mp hq
    have h3 : (rws w op mu ba en pr q).any (fun i' => rcS w op mu ba en pr z q i' && cmpt z i' i) = true := h2
    obtain ⟨i', a1, a2⟩ := List.any_eq_true.mp h3
    rw [Bool.and_eq_true] at a2
    exact List.any_eq_true.mpr ⟨i', a1, a2.1⟩
end MQW
/-! the class's tables and the reference's are the same -/
section MA
variable {w n lap : Nat} {op mu ba la en : Nat → Nat} {pr : Nat → Option Nat} {z ci i : Nat}
theorem M_fc (hG : GOK w n lap op mu ba la en pr) (hc : ci < n) (hi : i < 2 ^ (w - 1)) : (fcC w op mu ba en pr ci i < 1000000 ↔ rg w op mu ba en pr ci i = true) ∧ (rg w op mu ba en pr ci i = true → fcC w op mu ba en pr ci i = coF pr w (op ci) (2 * i)) := mq_fc hG hi
theorem M_best (hG : GOK w n lap op mu ba la en pr) (hz1 : 1 ≤ z) (hz2 : z ≤ 3) : pwT w n op mu ba en pr z n (2 ^ (w - 1) - 1) = if bsS w op mu ba en pr n z = 1000000000 then 1000000 else bsS w op mu ba en pr n z := mq_best hG
theorem M_bs (hG : GOK w n lap op mu ba la en pr) (hz1 : 1 ≤ z) (hz2 : z ≤ 3) : bsS w op mu ba en pr n z = 1000000000 ∨ bsS w op mu ba en pr n z ≤ 8000 := mq_bs hG
theorem M_ch (hG : GOK w n lap op mu ba la en pr) (hz1 : 1 ≤ z) (hz2 : z ≤ 3) (h : bsS w op mu ba en pr n z ≠ 1000000000) : ∀ q, q < n → chS w n op mu ba en pr z q = bsR w op mu ba en pr n z q := mq_ch hG h
theorem M_walls (hG : GOK w n lap op mu ba la en pr) (hz1 : 1 ≤ z) (hz2 : z ≤ 3) : rvS w op mu ba en pr z n = wlS w op mu ba en pr n z := mq_walls hG hz1
theorem M_high (hG : GOK w n lap op mu ba la en pr) (hz1 : 1 ≤ z) (hz2 : z ≤ 3) : rcN w op mu ba en pr z n = hgG (fun q => (rws w op mu ba en pr q).any (rcS w op mu ba en pr z q)) n 0 := mq_high hG hz1 hz2
theorem M_rule {j : Nat} (hG : GOK w n lap op mu ba la en pr) (hc : ci < n) (hj : j < 2 ^ w) (hj2 : j % 2 = 0) : ruF pr w (op ci) (bl op ci) (mu ci) (ba ci) (en (ci % 2 * 2)) (en (ci % 2 * 2 + 1)) j = if decide (j &&& (op ci ||| op ci <<< 1) = 0) = false then 1 else if (decide (j &&& mu ci = mu ci) && decide (j &&& ba ci = 0)) = false then 2 else rpS pr w (op ci) (bl op ci) (en (ci % 2 * 2)) (en (ci % 2 * 2 + 1)) j w := mq_rule (Nat.le_of_succ_le hG.1) hj hj2
theorem M_len {o j x xf xt : Nat} (ho : o < 2 ^ w) (hx : x < w) (hox : o.testBit x = false) (h1 : xf ≤ x) (h2 : xf = 0 ∨ (bnd w o j).testBit xf = true) (h3 : ∀ y, xf < y → y ≤ x → (bnd w o j).testBit y = false) (h4 : x < xt) (h5 : xt ≤ w) (h6 : xt = w ∨ (bnd w o j).testBit xt = true) (h7 : ∀ y, x < y → y < xt → (bnd w o j).testBit y = false) : xt - xf = lenF w o j (foF o j x) := mq_len hox h1 h2 h3 h4 h5 h6 h7
end MA
theorem M_cost {w n : Nat} {op jf : Nat → Nat} {pr : Nat → Option Nat} {tl : Nat → Nat} (hw : w ≤ 10) (h : ∀ q, q ≤ 10 → tl q = sumN (fun c => pcF w (op c) (jf c) q) n) : sumN (fun q => tl (q + 1) * prN pr (q + 1)) 10 = sumN (fun q => coF pr w (op q) (jf q)) n := mq_cost hw h
theorem M_total {w n : Nat} {op jf : Nat → Nat} {tl : Nat → Nat} (h : ∀ q, q ≤ 10 → tl q = sumN (fun c => pcF w (op c) (jf c) q) n) : sumN tl 11 = sumN (fun q => sumN (fun z => pcF w (op z) (jf z) (q + 1)) n) 10 := mq_total h
theorem M_span {w o : Nat} {tl : Nat → Nat} (hw : w ≤ 10) (h : ∀ q, q ≤ 10 → tl q = pcF w o 0 q) : sumN tl 11 = sumN (spT o) w := mq_span hw h
theorem pcF_0 {w o j q : Nat} (h : w < q) : pcF w o j q = 0 := mq_pcw h
def tyS (tl op jf : Nat → Nat) (w k : Nat) : Nat → Nat := fun q => lyF tl (fun _ => 0) 11 q + sumN (fun c => pcF w (op c) (jf c) q) k
theorem tyS_0 {tl op jf : Nat → Nat} {w : Nat} : lyF tl (fun _ => 0) 11 = tyS tl op jf w 0 := rfl
theorem tyS_s {tl op jf : Nat → Nat} {w k : Nat} : tlP w (op k) (jf k) (tyS tl op jf w k) w = tyS tl op jf w (k + 1) := by
  funext q
  unfold tlP tyS
  rw [Nat.add_assoc]
  rfl
theorem tyS_e {tl op jf : Nat → Nat} {w n q : Nat} (h : q ≤ 10) : tyS tl op jf w n q = sumN (fun c => pcF w (op c) (jf c) q) n := by
  unfold tyS lyF
  rw [if_pos (by omega)]
  exact Nat.zero_add _
theorem tyS_le {tl op jf : Nat → Nat} {w n : Nat} (hw : w ≤ 10) (hn : n ≤ 8) (h : ∀ q, tl q ≤ 1000) : ∀ q, tyS tl op jf w n q ≤ 1000 := by
  intro q
  by_cases hq : q ≤ 10
  · rw [tyS_e hq]
    have := lp_le (op := op) (la := jf) (L := q) hw hn
    omega
  · unfold tyS lyF
    rw [if_neg (by omega)]
    have e : sumN (fun c => pcF w (op c) (jf c) q) n = sumN (fun _ => 0) n := sumN_congr n (fun c _ => pcF_0 (by omega))
    have e2 : ∀ k, sumN (fun _ => 0) k = 0 := by
      intro k
      induction k with
      | zero => rfl
      | succ k ih => show sumN _ k + 0 = 0; rw [ih]
    rw [e, e2]
    have := h q
    omega
/-- what is kept true of the class's own tables -/
def VOK (w n : Nat) (op mu ba en : Nat → Nat) (pr : Nat → Option Nat) (fr : Bool) (co : Nat → Nat → Nat) (cl : Nat) (rv : Int64) (rc : Nat) (pj : Nat → Nat → Nat) (pw ch : Nat → Nat) (pl lc : Nat) (tl : Nat → Nat) : Prop :=
  COK co ∧ (fr = true → CoOk w n op mu ba en pr co) ∧ cl ≤ 3 ∧ (1 ≤ cl → rv = rvS w op mu ba en pr cl n ∧ rc = rcN w op mu ba en pr cl n) ∧ pl ≤ 3 ∧ COK pj ∧ (∀ q, ch q < 512) ∧ (∀ S, pw S ≤ 1000000) ∧ lc ≤ 1000000 ∧ (1 ≤ pl → lc = pwT w n op mu ba en pr pl n (2 ^ (w - 1) - 1) ∧ ∀ q, q < n → ch q = chS w n op mu ba en pr pl q) ∧ ∀ q, tl q ≤ 1000
theorem VOK_f {w n w' n' : Nat} {op mu ba en op' mu' ba' en' : Nat → Nat} {pr pr' : Nat → Option Nat} {fr : Bool} {co : Nat → Nat → Nat} {cl : Nat} {rv : Int64} {rc : Nat} {pj : Nat → Nat → Nat} {pw ch : Nat → Nat} {pl lc : Nat} {tl : Nat → Nat} (h : VOK w n op mu ba en pr fr co cl rv rc pj pw ch pl lc tl) : VOK w' n' op' mu' ba' en' pr' false co 0 rv rc pj pw ch 0 lc tl := by
  obtain ⟨h1, h2, h3, h4, h5, h6, h7, h8, h9, h10, h11⟩ := h
  exact ⟨h1, fun q => absurd q (by decide), by omega, fun q => absurd q (by omega), by omega, h6, h7, h8, h9, fun q => absurd q (by omega), h11⟩
theorem flt_congr {p q : Nat → Bool} {N : Nat} (h : ∀ i, i < N → p i = q i) : flt p N = flt q N := by
  unfold flt
  exact List.filter_congr (fun x hx => h x (List.mem_range.mp hx))
theorem rws_flt {w n lap : Nat} {op mu ba la en : Nat → Nat} {pr : Nat → Option Nat} {ci : Nat} {co : Nat → Nat → Nat} (hG : GOK w n lap op mu ba la en pr) (hc : ci < n) (h : CoOk w n op mu ba en pr co) : flt (fun q => decide (co ci q < 1000000)) (2 ^ (w - 1)) = rws w op mu ba en pr ci := by
  show _ = flt (rg w op mu ba en pr ci) (2 ^ (w - 1))
  refine flt_congr (fun i hi => ?_)
  rw [h ci i hc hi]
  have := (M_fc hG hc hi).1
  cases hr : rg w op mu ba en pr ci i with
  | true => exact decide_eq_true (this.mpr hr)
  | false => exact decide_eq_false (fun q => by rw [this.mp q] at hr; cases hr)
/-- refused numbers, as masks see them -/
theorem mk_zero {x m : Int32} (h : x &&& (m ^^^ (-1)) = 0) : x &&& m = x := by
  apply Int32.toBitVec_inj.mp
  have h2 := congrArg Int32.toBitVec h
  simp only [Int32.toBitVec_and, Int32.toBitVec_xor] at h2 ⊢
  apply BitVec.eq_of_getLsbD_eq
  intro k hk
  have h3 := congrArg (fun v => v.getLsbD k) h2
  have h4 : (-1 : Int32).toBitVec = BitVec.allOnes 32 := by decide
  have h5 : (0 : Int32).toBitVec = 0#32 := by decide
  simp only [h4, h5, BitVec.getLsbD_and, BitVec.getLsbD_xor, BitVec.getLsbD_allOnes, hk, decide_true, BitVec.getLsbD_zero] at h3
  rw [BitVec.getLsbD_and]
  cases hx : x.toBitVec.getLsbD k <;> cases hm : m.toBitVec.getLsbD k <;> simp [hx, hm] at h3 ⊢
/-! refused sets: masks -/
theorem mq_even {w : Nat} (hw : 1 ≤ w) : 2 ^ w = 2 * 2 ^ (w - 1) := by conv => (lhs; rw [show w = (w - 1) + 1 by omega, Nat.pow_succ, Nat.mul_comm])
theorem mq_mask {w m : Nat} {z : Int32} (hw : w ≤ 10) (hm : m < 2 ^ w) (hm2 : m % 2 = 0) (e : z &&& nI m = z) : ∃ j, j < 2 ^ w ∧ z = nI j ∧ j &&& m = j ∧ j % 2 = 0 := by
  have pw : 2 ^ w ≤ 2 ^ 10 := Nat.pow_le_pow_right (by decide) hw
  obtain ⟨j, hj, e2⟩ := pk_andE z (m := nI (2 ^ w - 1)) w (by rw [pk_tn (by omega)])
  have e3 : z &&& nI (2 ^ w - 1) = z := by
    have k : nI m &&& nI (2 ^ w - 1) = nI m := by rw [nI_and (by omega) (by omega), Nat.and_two_pow_sub_one_of_lt_two_pow hm]
    conv => lhs; rw [← e]
    rw [Int32.and_assoc, k, e]
  rw [e3] at e2
  subst e2
  rw [nI_and (by omega) (by omega)] at e
  have e4 : j &&& m = j := nI_e1 (Nat.lt_of_le_of_lt Nat.and_le_left (by omega)) (by omega) e
  refine ⟨j, hj, rfl, e4, ?_⟩
  rw [Nat.mod_two_eq_zero_iff_testBit_zero]
  have h5 := congrArg (fun v => v.testBit 0) e4
  simp only [Nat.testBit_and, Nat.mod_two_eq_zero_iff_testBit_zero.mp hm2, Bool.and_false] at h5
  exact h5.symm
theorem mq_places {w : Nat} {z : Int32} (h1 : 2 ≤ w) (h2 : w ≤ 10) (h : plI w z = false) : ¬ z &&& (nI (2 ^ w - 2) ^^^ (-1)) = 0 := by
  intro q
  have p0 := mq_even (w := w) (by omega)
  have p1 : 0 < 2 ^ (w - 1) := Nat.pow_pos (by decide)
  obtain ⟨j, hj, rfl, -, hj2⟩ := mq_mask (w := w) (m := 2 ^ w - 2) h2 (by omega) (by omega) (mk_zero q)
  rw [plI_n hj hj2 h2] at h
  cases h
theorem mq_mends {z : Int32} (h : (wiI z (nI 0) (nI 126) && !decide (z - z / nI 2 * nI 2 = nI 1)) = false) : ¬ z &&& (-127) = 0 := by
  intro q
  have e : (-127 : Int32) = nI 126 ^^^ (-1) := by decide
  rw [e] at q
  obtain ⟨j, hj, rfl, -, hj2⟩ := mq_mask (w := 7) (m := 126) (by decide) (by decide) (by decide) (mk_zero q)
  have hall : ∀ j, j < 128 → j % 2 = 0 → (wiI (nI j) (nI 0) (nI 126) && !decide (nI j - nI j / nI 2 * nI 2 = nI 1)) = true := by decide +kernel
  rw [hall j hj hj2] at h
  cases h
theorem mq_nplaces {w k : Nat} (h1 : 1 ≤ w) (h : k < 2 ^ w) (h2 : k % 2 = 0) : ndf k (2 ^ w - 2) = 0 := by
  rw [mq_and]
  intro y hy
  have hyw := mq_lt h hy
  cases y with
  | zero =>
    rw [Nat.mod_two_eq_zero_iff_testBit_zero.mp h2] at hy
    cases hy
  | succ y =>
    have p0 := mq_even h1
    rw [Nat.testBit_succ, show (2 ^ w - 2) / 2 = 2 ^ (w - 1) - 1 by omega, Nat.testBit_two_pow_sub_one]
    exact decide_eq_true (by omega)
theorem mk_cells {w : Nat} {z : Int32} (h1 : 2 ≤ w) (h2 : w ≤ 10) (h : wiI z (nI 0) (nI (2 ^ w - 1)) = false) : ¬ z &&& (nI (2 ^ w - 1) ^^^ (-1)) = 0 := by
  intro q
  have e := mk_zero q
  have pw : 2 ^ w ≤ 2 ^ 10 := Nat.pow_le_pow_right (by decide) h2
  obtain ⟨j, hj, e2⟩ := pk_andE z (m := nI (2 ^ w - 1)) w (by rw [pk_tn (by omega)])
  rw [← e, e2] at h
  rw [wiN (by omega) (by omega) (by omega)] at h
  cases h
theorem mk_places {w : Nat} {z : Int32} (h1 : 2 ≤ w) (h2 : w ≤ 10) (h : plI w z = false) : ¬ z &&& (nI (2 ^ w - 2) ^^^ (-1)) = 0 := mq_places h1 h2 h
theorem mk_ends {z : Int32} (h : (wiI z (nI 0) (nI 126) && !decide (z - z / nI 2 * nI 2 = nI 1)) = false) : ¬ z &&& (-127) = 0 := mq_mends h
theorem ndf_cells {w k : Nat} (h : k < 2 ^ w) : ndf k (2 ^ w - 1) = 0 := by
  apply Nat.eq_of_testBit_eq
  intro y
  rw [ndf_bit, Nat.testBit_two_pow_sub_one, Nat.zero_testBit]
  by_cases e : y < w
  · simp [e]
  · rw [Nat.testBit_lt_two_pow (Nat.lt_of_lt_of_le h (Nat.pow_le_pow_right (by decide) (by omega)))]; rfl
theorem ndf_places {w k : Nat} (h1 : 1 ≤ w) (h : k < 2 ^ w) (h2 : k % 2 = 0) : ndf k (2 ^ w - 2) = 0 := mq_nplaces h1 h h2
theorem and_ends {k : Nat} (h : k ≤ 126) (h2 : k % 2 = 0) : nI k &&& (-127) = 0 := by
  have : ∀ k, k < 127 → k % 2 = 0 → nI k &&& (-127) = 0 := by decide +kernel
  exact this k (by omega) h2
def bc1 (x : Int32) : Int32 := x - ((x.toUInt32 >>> ((nI 1).toUInt32 &&& Int32.toUInt32 31)).toInt32 &&& nI 1431655765)
def bc2 (x : Int32) : Int32 := (x &&& nI 858993459) + ((x.toUInt32 >>> ((nI 2).toUInt32 &&& Int32.toUInt32 31)).toInt32 &&& nI 858993459)
def bc3 (x : Int32) : Int32 := (x + (x.toUInt32 >>> ((nI 4).toUInt32 &&& Int32.toUInt32 31)).toInt32) &&& nI 252645135
def bc4 (x : Int32) : Int32 := x + (x.toUInt32 >>> ((nI 8).toUInt32 &&& Int32.toUInt32 31)).toInt32
def bc5 (x : Int32) : Int32 := x + (x.toUInt32 >>> ((nI 16).toUInt32 &&& Int32.toUInt32 31)).toInt32
set_option maxRecDepth 100000 in
theorem bc_all : ∀ k, k < 1024 → bc5 (bc4 (bc3 (bc2 (bc1 (nI k))))) &&& nI 63 = nI (popG 31 k) := by decide +kernel
section RI
variable {w n lap : Nat} {op mu ba la en : Nat → Nat} {pr : Nat → Option Nat} {ci : Nat}
theorem ri_1 {K1 K2 : Bool} {r : Nat} (mr : ruF pr w (op ci) (bl op ci) (mu ci) (ba ci) (en (ci % 2 * 2)) (en (ci % 2 * 2 + 1)) (la ci) = if K1 = false then 1 else if K2 = false then 2 else r) (h1 : K1 = false) : nI 1 = nI (lrF pr w lap op mu ba la en ci) := by
  rw [if_pos h1] at mr
  rw [← lrF_1 (by rw [mr]; decide), mr]
theorem ri_2 {K1 K2 : Bool} {r : Nat} (mr : ruF pr w (op ci) (bl op ci) (mu ci) (ba ci) (en (ci % 2 * 2)) (en (ci % 2 * 2 + 1)) (la ci) = if K1 = false then 1 else if K2 = false then 2 else r) (h1 : K1 = true) (h2 : K2 = false) : nI 2 = nI (lrF pr w lap op mu ba la en ci) := by
  rw [h1, h2] at mr
  have mr2 : ruF pr w (op ci) (bl op ci) (mu ci) (ba ci) (en (ci % 2 * 2)) (en (ci % 2 * 2 + 1)) (la ci) = 2 := mr
  rw [← lrF_1 (by rw [mr2]; decide), mr2]
theorem ri_3 {K1 K2 : Bool} {r : Nat} (mr : ruF pr w (op ci) (bl op ci) (mu ci) (ba ci) (en (ci % 2 * 2)) (en (ci % 2 * 2 + 1)) (la ci) = if K1 = false then 1 else if K2 = false then 2 else r) (h1 : K1 = true) (h2 : K2 = true) (h3 : ¬ r = 0) : nI r = nI (lrF pr w lap op mu ba la en ci) := by
  rw [h1, h2] at mr
  have mr2 : ruF pr w (op ci) (bl op ci) (mu ci) (ba ci) (en (ci % 2 * 2)) (en (ci % 2 * 2 + 1)) (la ci) = r := mr
  rw [← lrF_1 (by rw [mr2]; exact h3), mr2]
theorem ar_0 : ∀ z, arG 0 z = 0
  | 0 => rfl
  | z + 1 => by
    unfold arG
    split
    · rfl
    · rw [ar_0 z]; simp
theorem ri_bl : (decide (0 < ci) && decide (arG (la (ci - 1)) lap &&& la ci ≠ 0)) = decide (¬ (la ci &&& arG (bl la ci) lap = 0)) := by
  unfold bl
  by_cases e : ci = 0
  · rw [if_pos e, ar_0, e]
    simp
  · rw [if_neg e, Nat.and_comm]
    simp [show 0 < ci by omega]
theorem ri_7 {K1 K2 : Bool} {r : Nat} (mr : ruF pr w (op ci) (bl op ci) (mu ci) (ba ci) (en (ci % 2 * 2)) (en (ci % 2 * 2 + 1)) (la ci) = if K1 = false then 1 else if K2 = false then 2 else r) (h1 : K1 = true) (h2 : K2 = true) (h3 : r = 0) (h4 : ¬ la ci &&& arG (bl la ci) lap = 0) : nI 7 = nI (lrF pr w lap op mu ba la en ci) := by
  rw [h1, h2, h3] at mr
  have mr2 : ruF pr w (op ci) (bl op ci) (mu ci) (ba ci) (en (ci % 2 * 2)) (en (ci % 2 * 2 + 1)) (la ci) = 0 := mr
  exact lrF_2 mr2 (by rw [ri_bl]; exact decide_eq_true h4)
theorem ri_0 {K1 K2 : Bool} {r : Nat} (mr : ruF pr w (op ci) (bl op ci) (mu ci) (ba ci) (en (ci % 2 * 2)) (en (ci % 2 * 2 + 1)) (la ci) = if K1 = false then 1 else if K2 = false then 2 else r) (h1 : K1 = true) (h2 : K2 = true) (h3 : r = 0) (h4 : la ci &&& arG (bl la ci) lap = 0) : nI 0 = nI (lrF pr w lap op mu ba la en ci) := by
  rw [h1, h2, h3] at mr
  have mr2 : ruF pr w (op ci) (bl op ci) (mu ci) (ba ci) (en (ci % 2 * 2)) (en (ci % 2 * 2 + 1)) (la ci) = 0 := mr
  exact lrF_3 mr2 (by rw [ri_bl]; exact decide_eq_false (fun q => q h4))
end RI
theorem sp_e {w o q : Nat} {tl : Nat → Nat} (h : q ≤ 10) : tlP w o 0 (lyF tl (fun _ => 0) 11) w q = pcF w o 0 q := by
  unfold tlP lyF
  rw [if_pos (by omega)]
  show 0 + _ = _
  rw [Nat.zero_add]
  rfl
theorem sp_le {w o : Nat} {tl : Nat → Nat} (hw : w ≤ 10) (h : ∀ q, tl q ≤ 1000) : ∀ q, tlP w o 0 (lyF tl (fun _ => 0) 11) w q ≤ 1000 := by
  intro q
  by_cases hq : q ≤ 10
  · rw [sp_e hq]
    have := pcF_le hw o 0 q
    omega
  · unfold tlP lyF
    rw [if_neg (by omega)]
    have e : sumN (pcT w o 0 q) w = 0 := pcF_0 (by omega)
    rw [e]
    exact h q
