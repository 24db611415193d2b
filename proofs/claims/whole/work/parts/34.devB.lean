/-! pieces, rules and costs of a course: the class's words and the reference's are the same -/
theorem mq_bo {o j x : Nat} (h : beg o j x = true) : o.testBit x = false := by
  cases ho : o.testBit x with
  | false => rfl
  | true =>
    unfold beg at h
    rw [ho] at h
    simp at h
theorem mq_fo {o j : Nat} : ∀ x, o.testBit x = false → beg o j (foF o j x) = true ∧ ∀ y, foF o j x ≤ y → y ≤ x → o.testBit y = false ∧ (foF o j x < y → beg o j y = false)
  | 0, h => by
    have e : foF o j 0 = 0 := rfl
    refine ⟨beg_0 h rfl, fun y h1 h2 => ?_⟩
    have : y = 0 := by omega
    subst this
    exact ⟨h, fun q => absurd q (by rw [e]; omega)⟩
  | x + 1, h => by
    cases hb : beg o j (x + 1) with
    | true =>
      rw [foF_t hb]
      refine ⟨hb, fun y h1 h2 => ?_⟩
      have : y = x + 1 := by omega
      subst this
      exact ⟨h, fun q => absurd q (Nat.lt_irrefl _)⟩
    | false =>
      obtain ⟨-, h3⟩ := beg_f0 h hb
      have e : foF o j (x + 1) = foF o j x := foF_f (Nat.succ_pos x) hb
      rw [e]
      obtain ⟨g1, g2⟩ := mq_fo (o := o) (j := j) x (by simpa using h3)
      refine ⟨g1, fun y h1 h2 => ?_⟩
      by_cases q : y = x + 1
      · subst q; exact ⟨h, fun _ => hb⟩
      · exact g2 y h1 (by omega)
theorem mq_len {w o j x xf xt : Nat} (hox : o.testBit x = false) (h1 : xf ≤ x) (h2 : xf = 0 ∨ (bnd w o j).testBit xf = true) (h3 : ∀ y, xf < y → y ≤ x → (bnd w o j).testBit y = false) (h4 : x < xt) (h5 : xt ≤ w) (h6 : xt = w ∨ (bnd w o j).testBit xt = true) (h7 : ∀ y, x < y → y < xt → (bnd w o j).testBit y = false) : xt - xf = lenF w o j (foF o j x) := by
  have hof : ∀ y, xf ≤ y → y ≤ x → o.testBit y = false := by
    intro y a1 a2
    by_cases e : y = x
    · rw [e]; exact hox
    · have := h3 (y + 1) (by omega) (by omega)
      rw [bnd_bit] at this
      simp only [Bool.or_eq_false_iff, Bool.and_eq_false_iff, decide_eq_false_iff_not] at this
      rcases this.1.2 with q | q
      · omega
      · simpa using q
  have ho : o.testBit xf = false := hof xf (Nat.le_refl _) h1
  have hno : ∀ y, xf < y → y < xt → (bnd w o j).testBit y = false := fun y a1 a2 => if e : y ≤ x then h3 y a1 e else h7 y (by omega) a2
  obtain ⟨k1, k2, k3⟩ := KB h5 (by omega) h2 hno h6
  have hfo : foF o j x = xf := by
    obtain ⟨g1, g2⟩ := mq_fo (o := o) (j := j) x hox
    rcases Nat.lt_trichotomy (foF o j x) xf with q | q | q
    · have := (g2 xf (by omega) h1).2 q
      rw [k1, ho] at this
      simp at this
    · exact q
    · have h9 := foF_le o j x
      have := k3 _ q (by omega)
      rw [this] at g1; cases g1
  rw [hfo, k2 ho]
theorem mq_pcw {w o j q : Nat} (h : w < q) : pcF w o j q = 0 := by
  unfold pcF
  refine mq_sum0 w (fun x hx => ?_)
  have := lenF_le (o := o) (j := j) hx
  unfold pcT
  rw [if_neg]
  intro e
  simp only [Bool.and_eq_true, beq_iff_eq] at e
  omega
theorem mq_pc0 {w o j : Nat} : pcF w o j 0 = 0 := by
  unfold pcF
  refine mq_sum0 w (fun x hx => ?_)
  have := lenF_pos (w := w) (o := o) (j := j) (x := x)
  unfold pcT
  rw [if_neg]
  intro e
  simp only [Bool.and_eq_true, beq_iff_eq] at e
  omega
theorem mq_total {w n : Nat} {op jf : Nat → Nat} {tl : Nat → Nat} (h : ∀ q, q ≤ 10 → tl q = sumN (fun c => pcF w (op c) (jf c) q) n) : sumN tl 11 = sumN (fun q => sumN (fun z => pcF w (op z) (jf z) (q + 1)) n) 10 := by
  have k0 : tl 0 = 0 := by
    rw [h 0 (by omega)]
    exact mq_sum0 n (fun c _ => mq_pc0)
  have k1 : sumN tl 11 = sumN tl 1 + sumN (fun q => tl (1 + q)) 10 := mq_split 1 10
  have k2 : sumN tl 1 = 0 := by show 0 + tl 0 = 0; rw [k0]
  rw [k1, k2, Nat.zero_add]
  refine sumN_congr 10 (fun q hq => ?_)
  show tl (1 + q) = sumN (fun z => pcF w (op z) (jf z) (q + 1)) n
  rw [Nat.add_comm 1 q]
  exact h (q + 1) (by omega)
theorem mq_span {w o : Nat} {tl : Nat → Nat} (hw : w ≤ 10) (h : ∀ q, q ≤ 10 → tl q = pcF w o 0 q) : sumN tl 11 = sumN (spT o) w := by
  have k1 : sumN tl 11 = sumN (fun q => sumN (pcT w o 0 q) w) 11 := sumN_congr 11 (fun q hq => h q (by omega))
  rw [k1, mq_swap]
  refine sumN_congr w (fun x hx => ?_)
  show sumN (fun q => pcT w o 0 q x) 11 = spT o x
  have h1 := lenF_le (o := o) (j := 0) hx
  have k2 : sumN (fun q => pcT w o 0 q x) 11 = sumN (fun q => if lenF w o 0 x = q then (if beg o 0 x then 1 else 0) else 0) 11 := sumN_congr 11 (fun q _ => by
     show pcT w o 0 q x = if lenF w o 0 x = q then (if beg o 0 x then 1 else 0) else 0
     unfold pcT
     cases beg o 0 x <;> by_cases e : lenF w o 0 x = q <;> simp [e])
  rw [k2, mq_one (g := fun _ => if beg o 0 x then 1 else 0), if_pos (by omega)]
  unfold spT beg
  rw [Nat.zero_testBit, Bool.or_false]
theorem mq_cost {w n : Nat} {op jf : Nat → Nat} {pr : Nat → Option Nat} {tl : Nat → Nat} (hw : w ≤ 10) (h : ∀ q, q ≤ 10 → tl q = sumN (fun c => pcF w (op c) (jf c) q) n) : sumN (fun q => tl (q + 1) * prN pr (q + 1)) 10 = sumN (fun q => coF pr w (op q) (jf q)) n := by
  have k1 : sumN (fun q => tl (q + 1) * prN pr (q + 1)) 10 = sumN (fun q => sumN (fun c => pcF w (op c) (jf c) (q + 1) * prN pr (q + 1)) n) 10 := sumN_congr 10 (fun q hq => by
    show tl (q + 1) * prN pr (q + 1) = sumN (fun c => pcF w (op c) (jf c) (q + 1) * prN pr (q + 1)) n
    rw [h (q + 1) (by omega), mq_mul])
  rw [k1, mq_swap]
  refine sumN_congr n (fun c _ => ?_)
  show sumN (fun q => pcF w (op c) (jf c) (q + 1) * prN pr (q + 1)) 10 = sumN (coT pr w (op c) (jf c)) w
  have k2 : sumN (fun q => pcF w (op c) (jf c) (q + 1) * prN pr (q + 1)) 10 = sumN (fun q => sumN (fun x => pcT w (op c) (jf c) (q + 1) x * prN pr (q + 1)) w) 10 := sumN_congr 10 (fun q _ => mq_mul w)
  rw [k2, mq_swap]
  refine sumN_congr w (fun x hx => ?_)
  have g1 := lenF_le (o := op c) (j := jf c) hx
  have g2 := lenF_pos (w := w) (o := op c) (j := jf c) (x := x)
  show sumN (fun q => pcT w (op c) (jf c) (q + 1) x * prN pr (q + 1)) 10 = coT pr w (op c) (jf c) x
  have k3 : sumN (fun q => pcT w (op c) (jf c) (q + 1) x * prN pr (q + 1)) 10 = sumN (fun q => if lenF w (op c) (jf c) x - 1 = q then (if beg (op c) (jf c) x then prN pr (q + 1) else 0) else 0) 10 := sumN_congr 10 (fun q _ => by
    show pcT w (op c) (jf c) (q + 1) x * prN pr (q + 1) = if lenF w (op c) (jf c) x - 1 = q then (if beg (op c) (jf c) x then prN pr (q + 1) else 0) else 0
    unfold pcT
    by_cases e : lenF w (op c) (jf c) x - 1 = q
    · have e2 : lenF w (op c) (jf c) x = q + 1 := by omega
      rw [if_pos e, e2]
      cases beg (op c) (jf c) x <;> simp
    · have e2 : ¬ lenF w (op c) (jf c) x = q + 1 := by omega
      rw [if_neg e]
      cases beg (op c) (jf c) x <;> simp [e2])
  rw [k3, mq_one (g := fun q => if beg (op c) (jf c) x then prN pr (q + 1) else 0), if_pos (by omega), show lenF w (op c) (jf c) x - 1 + 1 = lenF w (op c) (jf c) x by omega]
  rfl
theorem mq_wi {w o j : Nat} (hj : j < 2 ^ w) (hj2 : j % 2 = 0) : allN (wiT o j) w = decide (j &&& (o ||| o <<< 1) = 0) := by
  have h0 : j.testBit 0 = false := Nat.mod_two_eq_zero_iff_testBit_zero.mp hj2
  rw [Bool.eq_iff_iff, mq_all, decide_eq_true_eq]
  constructor
  · intro h
    apply Nat.eq_of_testBit_eq
    intro y
    rw [Nat.testBit_and, Nat.testBit_or, Nat.testBit_shiftLeft, Nat.zero_testBit]
    cases hy : j.testBit y with
    | false => rfl
    | true =>
      have y0 : y ≠ 0 := fun q => by rw [q, h0] at hy; cases hy
      have := h y (mq_lt hj hy)
      unfold wiT at this
      simp only [hy, beq_eq_false_iff_ne.mpr y0, Bool.false_or, Bool.not_true, Bool.and_eq_true, Bool.not_eq_true'] at this
      rw [this.1, this.2]
      simp
  · intro h x hx
    unfold wiT
    cases hy : j.testBit x with
    | false => simp
    | true =>
      have := congrArg (fun v => v.testBit x) h
      simp only [Nat.testBit_and, Nat.testBit_or, Nat.testBit_shiftLeft, Nat.zero_testBit, hy, Bool.true_and, Bool.or_eq_false_iff] at this
      by_cases e : x = 0
      · simp [e]
      · have h1 : 1 ≤ x := by omega
        have h2 : o.testBit (x - 1) = false := by simpa [h1] using this.2
        simp [this.1, h2]
theorem mq_and {a b : Nat} : ndf a b = 0 ↔ ∀ y, a.testBit y = true → b.testBit y = true := by
  constructor
  · intro h y hy
    have := congrArg (fun v => v.testBit y) h
    simp only [ndf_bit, hy, Nat.zero_testBit, Bool.true_and] at this
    simpa using this
  · intro h
    apply Nat.eq_of_testBit_eq
    intro y
    rw [ndf_bit, Nat.zero_testBit]
    cases hy : a.testBit y with
    | false => rfl
    | true => rw [h y hy]; rfl
theorem mq_must {mu j : Nat} : ndf mu j = 0 ↔ j &&& mu = mu := by
  constructor
  · intro h
    apply Nat.eq_of_testBit_eq
    intro y
    rw [Nat.testBit_and]
    cases hy : mu.testBit y with
    | false => simp
    | true => rw [mq_and.mp h y hy]; rfl
  · intro h
    rw [mq_and]
    intro y hy
    have := congrArg (fun v => v.testBit y) h
    simp only [Nat.testBit_and, hy, Bool.and_true] at this
    exact this
theorem mq_ends {w o j e0 e1 : Nat} (hw : 1 ≤ w) : (!enOk w o j e0 e1) = anyN (sp4 w o j e0 e1) w := by
  rw [Bool.eq_iff_iff, mq_any]
  constructor
  · intro h
    rw [Bool.not_eq_true'] at h
    unfold enOk at h
    rw [Bool.and_eq_false_iff, Bool.or_eq_false_iff, Bool.or_eq_false_iff] at h
    rcases h with ⟨a1, a2⟩ | ⟨a1, a2⟩
    · refine ⟨0, by omega, ?_⟩
      unfold sp4 r4T
      simp [beg_0 (j := j) a1 rfl, a2]
    · obtain ⟨g1, g2⟩ := mq_fo (o := o) (j := j) (w - 1) a1
      have hle := foF_le o j (w - 1)
      have k1 : foF o j (w - 1) + lenF w o j (foF o j (w - 1)) = w := by
        have k2 := lenF_le (w := w) (o := o) (j := j) (x := foF o j (w - 1)) (by omega)
        have k3 := lenF_pos (w := w) (o := o) (j := j) (x := foF o j (w - 1))
        rcases mq_lend (w := w) (o := o) (j := j) (x := foF o j (w - 1)) (by omega) with q | q
        · exact q
        · by_cases e : foF o j (w - 1) + lenF w o j (foF o j (w - 1)) = w
          · exact e
          · obtain ⟨c1, c2⟩ := g2 (foF o j (w - 1) + lenF w o j (foF o j (w - 1))) (by omega) (by omega)
            unfold bdy at q
            rw [c1, c2 (by omega)] at q
            cases q
      refine ⟨foF o j (w - 1), by omega, ?_⟩
      unfold sp4 r4T
      simp [g1, k1, a2]
  · rintro ⟨x, hx, hs⟩
    unfold sp4 r4T at hs
    simp only [Bool.and_eq_true, Bool.or_eq_true, decide_eq_true_eq, Bool.not_eq_true'] at hs
    obtain ⟨hb, hs⟩ := hs
    have hox := mq_bo hb
    rw [Bool.not_eq_true']
    unfold enOk
    rw [Bool.and_eq_false_iff, Bool.or_eq_false_iff, Bool.or_eq_false_iff]
    rcases hs with ⟨q, a⟩ | ⟨q, a⟩
    · subst q; left; exact ⟨hox, a⟩
    · right
      have hno : ∀ y, x < y → y < w → o.testBit y = false ∧ beg o j y = false := fun y b1 b2 => by
        have := mq_lno (w := w) (o := o) (j := j) (x := x) (y := y) b1 (by omega)
        unfold bdy at this
        exact Bool.or_eq_false_iff.mp this
      have hl : o.testBit (w - 1) = false := by
        by_cases e : x = w - 1
        · rw [← e]; exact hox
        · exact (hno (w - 1) (by omega) (by omega)).1
      obtain ⟨g1, g2⟩ := mq_fo (o := o) (j := j) (w - 1) hl
      have hle := foF_le o j (w - 1)
      have e : foF o j (w - 1) = x := by
        rcases Nat.lt_trichotomy (foF o j (w - 1)) x with q | q | q
        · have := (g2 x (by omega) (by omega)).2 q
          rw [hb] at this; cases this
        · exact q
        · have := (hno _ q (by omega)).2
          rw [this] at g1; cases g1
      rw [e]
      exact ⟨hl, a⟩
theorem mq_rule {pr : Nat → Option Nat} {w o b mu ba e0 e1 j : Nat} (hw : 1 ≤ w) (hj : j < 2 ^ w) (hj2 : j % 2 = 0) : ruF pr w o b mu ba e0 e1 j = if decide (j &&& (o ||| o <<< 1) = 0) = false then 1 else if (decide (j &&& mu = mu) && decide (j &&& ba = 0)) = false then 2 else rpS pr w o b e0 e1 j w := by
  have k1 := mq_wi (o := o) hj hj2
  have k2 : (ndf mu j ≠ 0 ∨ ba &&& j ≠ 0) ↔ (decide (j &&& mu = mu) && decide (j &&& ba = 0)) = false := by
    rw [Bool.and_eq_false_iff, decide_eq_false_iff_not, decide_eq_false_iff_not, ← mq_must (mu := mu) (j := j), Nat.and_comm j ba]
  have k3 : rpS pr w o b e0 e1 j w = if anyN (spc pr w o b j 3) w then 3 else if !enOk w o j e0 e1 then 4 else if anyN (spc pr w o b j 5) w then 5 else if anyN (spc pr w o b j 6) w then 6 else 0 := by
    unfold rpS RR
    rw [← mq_ends hw]
  unfold ruF
  rw [k1, k3]
  by_cases a1 : decide (j &&& (o ||| o <<< 1) = 0) = false
  · rw [if_pos a1, if_pos (by rw [a1]; rfl)]
  · rw [if_neg a1, if_neg (by simpa using a1)]
    by_cases a2 : ndf mu j ≠ 0 ∨ ba &&& j ≠ 0
    · rw [if_pos a2, if_pos (k2.mp a2)]
    · rw [if_neg a2, if_neg (fun q => a2 (k2.mpr q))]
theorem mq_RR {a b c d : Bool} : RR a b c d = 0 ↔ (a = false ∧ b = false ∧ c = false ∧ d = false) := by
  cases a <;> cases b <;> cases c <;> cases d <;> decide
theorem mq_anyf {f : Nat → Bool} {N : Nat} : anyN f N = false ↔ ∀ x, x < N → f x = false := by
  rw [← Bool.not_eq_true, mq_any]
  constructor
  · intro h x hx
    cases hq : f x with
    | false => rfl
    | true => exact absurd ⟨x, hx, hq⟩ h
  · rintro h ⟨x, hx, hq⟩
    rw [h x hx] at hq
    cases hq
section MQR
variable {pr : Nat → Option Nat} {w o b e0 e1 j N : Nat}
theorem mq_rp : rpS pr w o b e0 e1 j N = 0 ↔ ∀ x, x < N → beg o j x = true → rbP pr w b e0 e1 x (lenF w o j x) = 0 := by
  unfold rpS
  rw [mq_RR, mq_anyf, mq_anyf, mq_anyf, mq_anyf]
  have e : ∀ x, rbP pr w b e0 e1 x (lenF w o j x) = RR (brk pr b x (lenF w o j x) 3) (r4T w e0 e1 x (lenF w o j x)) (brk pr b x (lenF w o j x) 5) (brk pr b x (lenF w o j x) 6) := fun x => rfl
  constructor
  · rintro ⟨a3, a4, a5, a6⟩ x hx hb
    rw [e, mq_RR]
    refine ⟨?_, ?_, ?_, ?_⟩
    · have := a3 x hx; unfold spc at this; rw [hb] at this; exact this
    · have := a4 x hx; unfold sp4 at this; rw [hb] at this; exact this
    · have := a5 x hx; unfold spc at this; rw [hb] at this; exact this
    · have := a6 x hx; unfold spc at this; rw [hb] at this; exact this
  · intro h
    refine ⟨fun x hx => ?_, fun x hx => ?_, fun x hx => ?_, fun x hx => ?_⟩
    · unfold spc
      cases hb : beg o j x with
      | false => rfl
      | true => exact (mq_RR.mp ((e x).symm.trans (h x hx hb))).1
    · unfold sp4
      cases hb : beg o j x with
      | false => rfl
      | true => exact (mq_RR.mp ((e x).symm.trans (h x hx hb))).2.1
    · unfold spc
      cases hb : beg o j x with
      | false => rfl
      | true => exact (mq_RR.mp ((e x).symm.trans (h x hx hb))).2.2.1
    · unfold spc
      cases hb : beg o j x with
      | false => rfl
      | true => exact (mq_RR.mp ((e x).symm.trans (h x hx hb))).2.2.2
theorem mq_rpn (h : rpS pr w o b e0 e1 j N ≠ 0) : ∃ x, x < N ∧ beg o j x = true ∧ rbP pr w b e0 e1 x (lenF w o j x) ≠ 0 := by
  apply Classical.byContradiction
  intro q
  apply h
  rw [mq_rp]
  intro x hx hb
  exact Classical.byContradiction (fun r => q ⟨x, hx, hb, r⟩)
theorem mq_cbco (h0 : rpS pr w o b e0 e1 j w = 0) : sumN (cbT pr w o b e0 e1 j) w = coF pr w o j := by
  refine sumN_congr w (fun x hx => ?_)
  unfold cbT coT
  cases hb : beg o j x with
  | false => rfl
  | true =>
    have := mq_rp.mp h0 x hx hb
    unfold pcst
    rw [if_pos this]
theorem mq_cbbig (h0 : rpS pr w o b e0 e1 j w ≠ 0) : 1000000 ≤ sumN (cbT pr w o b e0 e1 j) w := by
  obtain ⟨x, hx, hb, hr⟩ := mq_rpn h0
  have h1 := mq_ge (f := cbT pr w o b e0 e1 j) hx
  have h2 : cbT pr w o b e0 e1 j x = 1000000 := by unfold cbT pcst; rw [if_pos hb, if_neg hr]
  omega
end MQR
theorem mq_fc {w n lap : Nat} {op mu ba la en : Nat → Nat} {pr : Nat → Option Nat} {ci i : Nat} (hG : GOK w n lap op mu ba la en pr) (hi : i < 2 ^ (w - 1)) : (fcC w op mu ba en pr ci i < 1000000 ↔ rg w op mu ba en pr ci i = true) ∧ (rg w op mu ba en pr ci i = true → fcC w op mu ba en pr ci i = coF pr w (op ci) (2 * i)) := by
  obtain ⟨g1, g2, g3, g4, g5, g6, g7, g8, g9, g10, g11, _⟩ := hG
  have eh : 2 ^ w = 2 * 2 ^ (w - 1) := by conv => (lhs; rw [show w = (w - 1) + 1 by omega, Nat.pow_succ, Nat.mul_comm])
  have hco := coF_le g11 g2 (op ci) (2 * i)
  have ef : fcC w op mu ba en pr ci i = if kpF (op ci) (mu ci) (ba ci) (2 * i) then min 1000000 (sumN (cbT pr w (op ci) (bl op ci) (en (ci % 2 * 2)) (en (ci % 2 * 2 + 1)) (2 * i)) w) else 1000000 := rfl
  have er : rg w op mu ba en pr ci i = true ↔ kpF (op ci) (mu ci) (ba ci) (2 * i) = true ∧ rpS pr w (op ci) (bl op ci) (en (ci % 2 * 2)) (en (ci % 2 * 2 + 1)) (2 * i) w = 0 := by
    unfold rg kpF
    rw [beq_iff_eq, mq_rule (by omega) (by omega) (Nat.mul_mod_right 2 i)]
    cases decide (2 * i &&& (op ci ||| op ci <<< 1) = 0) <;> cases (decide (2 * i &&& mu ci = mu ci) && decide (2 * i &&& ba ci = 0)) <;> simp
  have key : rg w op mu ba en pr ci i = true → fcC w op mu ba en pr ci i = coF pr w (op ci) (2 * i) := by
    intro h
    obtain ⟨a, b⟩ := er.mp h
    rw [ef, a, if_pos rfl, mq_cbco b, Nat.min_eq_right (by omega)]
  refine ⟨⟨fun h => ?_, fun h => by rw [key h]; omega⟩, key⟩
  rw [er]
  cases hk : kpF (op ci) (mu ci) (ba ci) (2 * i) with
  | false =>
    rw [ef, hk, if_neg (by decide)] at h
    omega
  | true =>
    refine ⟨rfl, ?_⟩
    rw [ef, hk, if_pos rfl] at h
    rcases Nat.eq_zero_or_pos (rpS pr w (op ci) (bl op ci) (en (ci % 2 * 2)) (en (ci % 2 * 2 + 1)) (2 * i) w) with q | q
    · exact q
    · have := mq_cbbig (pr := pr) (w := w) (o := op ci) (b := bl op ci) (e0 := en (ci % 2 * 2)) (e1 := en (ci % 2 * 2 + 1)) (j := 2 * i) (by omega)
      omega
