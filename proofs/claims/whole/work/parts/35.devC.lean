/-! the wall that costs least: the class's tables over subsets and the reference's lists of rows -/
theorem mq_ar2 {i y : Nat} : ∀ z, (arG (2 * i) z).testBit (y + 1) = (arG i z).testBit y
  | 0 => mq_tb2
  | z + 1 => by
    unfold arG
    by_cases e : z = 0
    · rw [if_pos e, if_pos e]; exact mq_tb2
    · rw [if_neg e, if_neg e, Nat.testBit_or, Nat.testBit_or, Nat.testBit_or, Nat.testBit_or, mq_ar2 z, Nat.testBit_shiftLeft, Nat.testBit_shiftLeft, Nat.testBit_shiftRight, Nat.testBit_shiftRight]
      have h1 : (2 * i).testBit (z + (y + 1)) = i.testBit (z + y) := mq_tb2 (y := z + y)
      rw [h1]
      by_cases q : z ≤ y
      · have h2 : (2 * i).testBit (y + 1 - z) = i.testBit (y - z) := by rw [show y + 1 - z = (y - z) + 1 by omega]; exact mq_tb2
        rw [h2, decide_eq_true (show y + 1 ≥ z by omega), decide_eq_true (show y ≥ z by omega)]
      · rw [decide_eq_false (show ¬ y ≥ z by omega)]
        by_cases q2 : y + 1 = z
        · rw [show y + 1 - z = 0 by omega, mq_tb20]; simp
        · rw [decide_eq_false (show ¬ y + 1 ≥ z by omega)]; simp
theorem mq_cm {z i i' : Nat} : cmpt z i i' = true ↔ i' &&& arG i z = 0 := by
  unfold cmpt
  rw [beq_iff_eq]
  constructor
  · intro h
    apply Nat.eq_of_testBit_eq
    intro y
    have := congrArg (fun v => v.testBit (y + 1)) h
    simp only [Nat.testBit_and, mq_ar2, mq_tb2, Nat.zero_testBit] at this
    rw [Nat.testBit_and, Nat.zero_testBit]
    exact this
  · intro h
    apply Nat.eq_of_testBit_eq
    intro y
    rw [Nat.testBit_and, Nat.zero_testBit]
    cases y with
    | zero => rw [mq_tb20]; rfl
    | succ y =>
      have := congrArg (fun v => v.testBit y) h
      simp only [Nat.testBit_and, Nat.zero_testBit] at this
      rw [mq_ar2, mq_tb2]
      exact this
theorem mq_arb {i y : Nat} : ∀ z, (arG i (z + 1)).testBit y = true ↔ ∃ k, k ≤ z ∧ (i.testBit (y + k) = true ∨ (k ≤ y ∧ i.testBit (y - k) = true))
  | 0 => by
    have e : arG i (0 + 1) = i := rfl
    rw [e]
    constructor
    · intro h
      exact ⟨0, Nat.le_refl _, Or.inl h⟩
    · rintro ⟨k, h1, h2⟩
      have : k = 0 := by omega
      subst this
      rcases h2 with h | h
      · exact h
      · exact h.2
  | z + 1 => by
    have e : arG i (z + 1 + 1) = arG i (z + 1) ||| (i <<< (z + 1) ||| i >>> (z + 1)) := by
      conv => lhs; unfold arG
      rw [if_neg (by omega)]
    rw [e, Nat.testBit_or, Nat.testBit_or, Bool.or_eq_true, Bool.or_eq_true, mq_arb z, Nat.testBit_shiftLeft, Nat.testBit_shiftRight, Bool.and_eq_true, decide_eq_true_eq]
    constructor
    · rintro (⟨k, h1, h2⟩ | h | h)
      · exact ⟨k, by omega, h2⟩
      · exact ⟨z + 1, Nat.le_refl _, Or.inr ⟨h.1, h.2⟩⟩
      · exact ⟨z + 1, Nat.le_refl _, Or.inl (by rw [Nat.add_comm y]; exact h)⟩
    · rintro ⟨k, h1, h2⟩
      by_cases q : k = z + 1
      · subst q
        right
        rcases h2 with h | h
        · right; rw [Nat.add_comm (z + 1)]; exact h
        · left; exact h
      · left; exact ⟨k, by omega, h2⟩
theorem mq_sym {i i' z : Nat} (hz : 1 ≤ z) (h : i' &&& arG i z = 0) : i &&& arG i' z = 0 := by
  obtain ⟨z, rfl⟩ : ∃ q, z = q + 1 := ⟨z - 1, by omega⟩
  apply Nat.eq_of_testBit_eq
  intro y
  rw [Nat.testBit_and, Nat.zero_testBit]
  cases hy : i.testBit y with
  | false => rfl
  | true =>
    cases hr : (arG i' (z + 1)).testBit y with
    | false => rfl
    | true =>
      exfalso
      obtain ⟨k, h1, h2⟩ := (mq_arb z).mp hr
      rcases h2 with h2 | ⟨h3, h2⟩
      · have h4 : (arG i (z + 1)).testBit (y + k) = true := (mq_arb z).mpr ⟨k, h1, Or.inr ⟨by omega, by rw [Nat.add_sub_cancel]; exact hy⟩⟩
        have := congrArg (fun v => v.testBit (y + k)) h
        simp [Nat.testBit_and, h2, h4] at this
      · have h4 : (arG i (z + 1)).testBit (y - k) = true := (mq_arb z).mpr ⟨k, h1, Or.inl (by rw [Nat.sub_add_cancel h3]; exact hy)⟩
        have := congrArg (fun v => v.testBit (y - k)) h
        simp [Nat.testBit_and, h2, h4] at this
theorem mq_ap {w i i' z : Nat} (hi : i' < 2 ^ (w - 1)) : ndf i' (apF w i z) = 0 ↔ i' &&& arG i z = 0 := by
  rw [mq_and]
  unfold apF
  constructor
  · intro h
    apply Nat.eq_of_testBit_eq
    intro y
    rw [Nat.testBit_and, Nat.zero_testBit]
    cases hy : i'.testBit y with
    | false => rfl
    | true =>
      have := h y hy
      rw [ndf_bit, Bool.and_eq_true, Bool.not_eq_true'] at this
      rw [this.2]; rfl
  · intro h y hy
    rw [ndf_bit, Nat.testBit_two_pow_sub_one]
    have := congrArg (fun v => v.testBit y) h
    simp only [Nat.testBit_and, hy, Bool.true_and, Nat.zero_testBit] at this
    rw [this, decide_eq_true (mq_lt hi hy)]; rfl
theorem mq_full {t i : Nat} (h : i < 2 ^ t) : ndf i (2 ^ t - 1) = 0 := by
  rw [mq_and]
  intro y hy
  rw [Nat.testBit_two_pow_sub_one]
  exact decide_eq_true (mq_lt h hy)
theorem mq_zml {f : Nat → Nat} : ∀ t S S', (∀ y, Nat.testBit S' y = true → Nat.testBit S y = true) → (∀ y, t ≤ y → Nat.testBit S' y = Nat.testBit S y) → zm f t S ≤ f S'
  | 0, S, S', h1, h2 => by
    have e : S' = S := Nat.eq_of_testBit_eq (fun y => h2 y (Nat.zero_le y))
    rw [e]; exact Nat.le_refl _
  | t + 1, S, S', h1, h2 => by
    cases hb : S.testBit t with
    | false =>
      rw [zm_f hb]
      refine mq_zml t S S' h1 (fun y hy => ?_)
      by_cases e : y = t
      · subst e
        rw [hb]
        cases hq : S'.testBit y with
        | false => rfl
        | true => rw [h1 y hq] at hb; cases hb
      · exact h2 y (by omega)
    | true =>
      rw [zm_t hb]
      cases hq : S'.testBit t with
      | true => exact Nat.le_trans (Nat.min_le_left _ _) (mq_zml t S S' h1 (fun y hy => if e : y = t then (by rw [e, hb, hq]) else h2 y (by omega)))
      | false =>
        refine Nat.le_trans (Nat.min_le_right _ _) (mq_zml t _ S' (fun y hy => ?_) (fun y hy => ?_))
        · have : ¬ t = y := fun q => by rw [← q, hq] at hy; cases hy
          rw [Nat.testBit_xor, Nat.testBit_two_pow, decide_eq_false this, h1 y hy]; rfl
        · by_cases e : t = y
          · rw [← e, hq, xor_bit hb]
          · rw [Nat.testBit_xor, Nat.testBit_two_pow, decide_eq_false e, h2 y (by omega)]; simp
theorem mq_zma {f : Nat → Nat} : ∀ t S, ∃ S', (∀ y, Nat.testBit S' y = true → Nat.testBit S y = true) ∧ zm f t S = f S'
  | 0, S => ⟨S, fun _ h => h, rfl⟩
  | t + 1, S => by
    cases hb : S.testBit t with
    | false => rw [zm_f hb]; exact mq_zma t S
    | true =>
      rw [zm_t hb]
      rcases Nat.le_total (zm f t S) (zm f t (S ^^^ 2 ^ t)) with q | q
      · rw [Nat.min_eq_left q]; exact mq_zma t S
      · rw [Nat.min_eq_right q]
        obtain ⟨S', a1, a2⟩ := mq_zma (f := f) t (S ^^^ 2 ^ t)
        refine ⟨S', fun y hy => ?_, a2⟩
        have := a1 y hy
        rw [Nat.testBit_xor, Nat.testBit_two_pow] at this
        by_cases e : t = y
        · rw [← e]; exact hb
        · rw [decide_eq_false e] at this; simpa using this
theorem mq_lsl {R : List Nat} {p : Nat → Bool} {f : Nat → Nat} : ∀ {init i : Nat}, i ∈ R → p i = true → lsL R p f init ≤ f i := by
  induction R with
  | nil => intro init i h; cases h
  | cons a R ih =>
    intro init i h hp
    have e : lsL (a :: R) p f init = lsL R p f (if p a then (if f a < init then f a else init) else init) := rfl
    rw [e]
    rcases List.mem_cons.mp h with q | q
    · subst q
      refine Nat.le_trans lsL_le ?_
      rw [if_pos hp]
      split <;> omega
    · exact ih q hp
/-- over the rows of a course: the class's least within a set is the reference's least -/
theorem mq_min {t S : Nat} {R : List Nat} {p r : Nat → Bool} {F f : Nat → Nat} (hS : S < 2 ^ t) (hR : ∀ i, i ∈ R ↔ i < 2 ^ t ∧ r i = true) (hF : ∀ i, i < 2 ^ t → F i = if r i then (if f i = 1000000000 then 1000000 else f i) else 1000000) (hf : ∀ i, f i = 1000000000 ∨ f i ≤ 8000) (hp : ∀ i, i < 2 ^ t → (p i = true ↔ ndf i S = 0)) : zm F t S = if lsL R p f 1000000000 = 1000000000 then 1000000 else lsL R p f 1000000000 := by
  obtain ⟨S', a1, a2⟩ := mq_zma (f := F) t S
  have hS' : S' < 2 ^ t := Nat.lt_of_le_of_lt (Nat.le_of_testBit a1) hS
  have low : ∀ i, i < 2 ^ t → p i = true → zm F t S ≤ F i := fun i hi hpi => mq_zml t S i (mq_and.mp ((hp i hi).mp hpi)) (fun y hy => by
    have p2 : 2 ^ t ≤ 2 ^ y := Nat.pow_le_pow_right (by decide) hy
    rw [Nat.testBit_lt_two_pow (by omega), Nat.testBit_lt_two_pow (by omega)])
  have hpS : p S' = true := (hp S' hS').mpr (mq_and.mpr a1)
  by_cases e : lsL R p f 1000000000 = 1000000000
  · rw [if_pos e, a2, hF S' hS']
    cases hr : r S' with
    | false => rw [if_neg (by decide)]
    | true =>
      have := mq_lsl (f := f) (init := 1000000000) ((hR S').mpr ⟨hS', hr⟩) hpS
      rcases hf S' with q | q
      · rw [if_pos rfl, if_pos q]
      · omega
  · rw [if_neg e]
    rcases lsL_at (R := R) (p := p) (f := f) (init := 1000000000) with q | ⟨i, b1, b2, b3⟩
    · exact absurd q e
    · obtain ⟨c1, c2⟩ := (hR i).mp b1
      have h1 := low i c1 b2
      rw [hF i c1, c2, if_pos rfl, b3, if_neg e] at h1
      have h2 : lsL R p f 1000000000 ≤ 8000 := by
        rcases hf i with q | q
        · rw [b3] at q; exact absurd q e
        · omega
      refine Nat.le_antisymm h1 ?_
      rw [a2, hF S' hS']
      cases hr : r S' with
      | false => rw [if_neg (by decide)]; omega
      | true =>
        rw [if_pos rfl]
        have := mq_lsl (f := f) (init := 1000000000) ((hR S').mpr ⟨hS', hr⟩) hpS
        split <;> omega
section MQB
variable {w n lap : Nat} {op mu ba la en : Nat → Nat} {pr : Nat → Option Nat} {z : Nat}
theorem mq_rws {c i : Nat} : i ∈ rws w op mu ba en pr c ↔ i < 2 ^ (w - 1) ∧ rg w op mu ba en pr c i = true := by
  unfold rws rgL
  rw [List.mem_filter, List.mem_range]
theorem mq_lf (hpr : ∀ i q, pr i = some q → q ≤ 99) (hw : w ≤ 10) : ∀ d c i, lfS w op mu ba en pr z d c i = 1000000000 ∨ lfS w op mu ba en pr z d c i ≤ 1000 * (d + 1)
  | 0, c, i => Or.inr (by
    have := coF_le hpr hw (op c) (2 * i)
    show coF pr w (op c) (2 * i) ≤ _
    omega)
  | d + 1, c, i => by
    have h0 := coF_le hpr hw (op c) (2 * i)
    show addc _ _ = _ ∨ addc _ _ ≤ _
    unfold addc
    split
    · left; rfl
    · next e =>
      right
      rcases lsL_at (R := rws w op mu ba en pr (c + 1)) (p := cmpt z i) (f := lfS w op mu ba en pr z d (c + 1)) (init := 1000000000) with q | ⟨i', b1, b2, b3⟩
      · exact absurd q e
      · rcases mq_lf hpr hw d (c + 1) i' with q | q
        · rw [b3] at q; exact absurd q e
        · rw [b3] at q; omega
theorem mq_lf8 (hpr : ∀ i q, pr i = some q → q ≤ 99) (hw : w ≤ 10) {d : Nat} (hd : d < 8) (c i : Nat) : lfS w op mu ba en pr z d c i = 1000000000 ∨ lfS w op mu ba en pr z d c i ≤ 8000 := by
  rcases mq_lf (op := op) (mu := mu) (ba := ba) (en := en) (z := z) hpr hw d c i with q | q
  · exact Or.inl q
  · right; omega
theorem mq_pj (hG : GOK w n lap op mu ba la en pr) : ∀ d, d < n → ∀ i, i < 2 ^ (w - 1) → pjF w (fcC w op mu ba en pr) (pwT w n op mu ba en pr z d) (n - 1 - d) z i = if rg w op mu ba en pr (n - 1 - d) i then (if lfS w op mu ba en pr z d (n - 1 - d) i = 1000000000 then 1000000 else lfS w op mu ba en pr z d (n - 1 - d) i) else 1000000
  | 0, hd, i, hi => by
    obtain ⟨f1, f2⟩ := mq_fc (ci := n - 1 - 0) hG hi
    have hco := coF_le hG.2.2.2.2.2.2.2.2.2.2.1 hG.2.1 (op (n - 1 - 0)) (2 * i)
    unfold pjF
    have e0 : pwT w n op mu ba en pr z 0 (apF w i z) = 0 := rfl
    have e1 : lfS w op mu ba en pr z 0 (n - 1 - 0) i = coF pr w (op (n - 1 - 0)) (2 * i) := rfl
    rw [e0, e1]
    cases hr : rg w op mu ba en pr (n - 1 - 0) i with
    | false =>
      rw [if_neg (by decide)]
      have : ¬ fcC w op mu ba en pr (n - 1 - 0) i < 1000000 := fun q => by rw [f1.mp q] at hr; cases hr
      omega
    | true =>
      rw [if_pos rfl, if_neg (by omega), f2 hr]
      omega
  | d + 1, hd, i, hi => by
    have g2 := hG.2.1
    have g3 := hG.2.2.1
    have g11 := hG.2.2.2.2.2.2.2.2.2.2.1
    obtain ⟨f1, f2⟩ := mq_fc (ci := n - 1 - (d + 1)) hG hi
    have hco := coF_le g11 g2 (op (n - 1 - (d + 1))) (2 * i)
    have ec : n - 1 - (d + 1) + 1 = n - 1 - d := by omega
    have hm := mq_min (t := w - 1) (S := apF w i z) (R := rws w op mu ba en pr (n - 1 - d)) (p := cmpt z i) (r := rg w op mu ba en pr (n - 1 - d)) (F := pjF w (fcC w op mu ba en pr) (pwT w n op mu ba en pr z d) (n - 1 - d) z) (f := lfS w op mu ba en pr z d (n - 1 - d)) (apF_lt hG.1) (fun _ => mq_rws) (mq_pj hG d (by omega)) (mq_lf8 g11 g2 (by omega) _) (fun i' hi' => by rw [mq_cm, mq_ap hi'])
    have e0 : pwT w n op mu ba en pr z (d + 1) (apF w i z) = zm (pjF w (fcC w op mu ba en pr) (pwT w n op mu ba en pr z d) (n - 1 - d) z) (w - 1) (apF w i z) := rfl
    have e1 : lfS w op mu ba en pr z (d + 1) (n - 1 - (d + 1)) i = addc (lsL (rws w op mu ba en pr (n - 1 - d)) (cmpt z i) (lfS w op mu ba en pr z d (n - 1 - d)) 1000000000) (coF pr w (op (n - 1 - (d + 1))) (2 * i)) := by
      rw [← ec]
      rfl
    have hL : lsL (rws w op mu ba en pr (n - 1 - d)) (cmpt z i) (lfS w op mu ba en pr z d (n - 1 - d)) 1000000000 = 1000000000 ∨ lsL (rws w op mu ba en pr (n - 1 - d)) (cmpt z i) (lfS w op mu ba en pr z d (n - 1 - d)) 1000000000 ≤ 8000 := by
      rcases lsL_at (R := rws w op mu ba en pr (n - 1 - d)) (p := cmpt z i) (f := lfS w op mu ba en pr z d (n - 1 - d)) (init := 1000000000) with q | ⟨i', b1, b2, b3⟩
      · exact Or.inl q
      · rw [← b3]; exact mq_lf8 g11 g2 (by omega) _ _
    unfold pjF
    rw [e0, hm, e1]
    unfold addc
    cases hr : rg w op mu ba en pr (n - 1 - (d + 1)) i with
    | false =>
      rw [if_neg (show ¬ false = true by decide)]
      have : ¬ fcC w op mu ba en pr (n - 1 - (d + 1)) i < 1000000 := fun q => by rw [f1.mp q] at hr; cases hr
      omega
    | true =>
      rw [if_pos (show true = true from rfl), f2 hr]
      by_cases q : lsL (rws w op mu ba en pr (n - 1 - d)) (cmpt z i) (lfS w op mu ba en pr z d (n - 1 - d)) 1000000000 = 1000000000
      · have k9 : (if (1000000000 : Nat) = 1000000000 then (1000000 : Nat) else 1000000000) = 1000000 := if_pos rfl
        rw [if_pos q, if_pos q, k9]
        exact Nat.min_eq_left (Nat.le_add_left _ _)
      · rw [if_neg q, if_neg q]
        rcases hL with hL | hL
        · exact absurd hL q
        · rw [if_neg (by omega), Nat.min_eq_right (by omega), Nat.add_comm]
theorem mq_bs (hG : GOK w n lap op mu ba la en pr) : bsS w op mu ba en pr n z = 1000000000 ∨ bsS w op mu ba en pr n z ≤ 8000 := by
  have g3 := hG.2.2.1
  unfold bsS
  by_cases e : n = 0
  · rw [if_pos e]; right; omega
  · rw [if_neg e]
    rcases lsL_at (R := rws w op mu ba en pr 0) (p := fun _ => true) (f := lfS w op mu ba en pr z (n - 1) 0) (init := 1000000000) with q | ⟨i', b1, b2, b3⟩
    · exact Or.inl q
    · rw [← b3]; exact mq_lf8 hG.2.2.2.2.2.2.2.2.2.2.1 hG.2.1 (by omega) _ _
theorem mq_best (hG : GOK w n lap op mu ba la en pr) : pwT w n op mu ba en pr z n (2 ^ (w - 1) - 1) = if bsS w op mu ba en pr n z = 1000000000 then 1000000 else bsS w op mu ba en pr n z := by
  have p0 : 0 < 2 ^ (w - 1) := Nat.pow_pos (by decide)
  have g3 := hG.2.2.1
  by_cases e : n = 0
  · have e1 : bsS w op mu ba en pr n z = 0 := by unfold bsS; rw [if_pos e]
    rw [e1, if_neg (by decide), e]
    rfl
  · have e1 : bsS w op mu ba en pr n z = lsL (rws w op mu ba en pr 0) (fun _ => true) (lfS w op mu ba en pr z (n - 1) 0) 1000000000 := by unfold bsS; rw [if_neg e]
    have hpj := mq_pj (z := z) hG (n - 1) (by omega)
    have e2 : n - 1 - (n - 1) = 0 := Nat.sub_self _
    rw [e2] at hpj
    have hm := mq_min (t := w - 1) (S := 2 ^ (w - 1) - 1) (R := rws w op mu ba en pr 0) (p := fun _ => true) (r := rg w op mu ba en pr 0) (F := pjF w (fcC w op mu ba en pr) (pwT w n op mu ba en pr z (n - 1)) 0 z) (f := lfS w op mu ba en pr z (n - 1) 0) (by omega) (fun _ => mq_rws) hpj (mq_lf8 hG.2.2.2.2.2.2.2.2.2.2.1 hG.2.1 (by omega) _) (fun i' hi' => ⟨fun _ => mq_full hi', fun _ => rfl⟩)
    rw [e1, ← hm]
    have e3 : pwT w n op mu ba en pr z ((n - 1) + 1) (2 ^ (w - 1) - 1) = zm (pjF w (fcC w op mu ba en pr) (pwT w n op mu ba en pr z (n - 1)) (n - 1 - (n - 1)) z) (w - 1) (2 ^ (w - 1) - 1) := rfl
    rw [show (n - 1) + 1 = n by omega, e2] at e3
    exact e3
theorem mq_cheap {f : Nat → Nat} {al i0 : Nat} (h1 : f i0 < 1000000) (h2 : ∀ i, i < i0 → ndf i al = 0 → f i0 < f i) : ∀ N, N ≤ i0 → f i0 < (chG f al N).2
  | 0, _ => h1
  | N + 1, h => by
    have ih := mq_cheap h1 h2 N (by omega)
    by_cases a : ndf N al = 0
    · by_cases b : f N < (chG f al N).2
      · rw [chG_t a b]; exact h2 N (by omega) a
      · rw [chG_f2 (by omega)]; exact ih
    · rw [chG_f1 a]; exact ih
theorem mq_cheap2 {f : Nat → Nat} {al i0 M : Nat} (h0 : ndf i0 al = 0) (h1 : f i0 < 1000000) (h2 : ∀ i, i < i0 → ndf i al = 0 → f i0 < f i) (h3 : ∀ i, ndf i al = 0 → i < M → f i0 ≤ f i) : ∀ N, i0 < N → N ≤ M → chG f al N = (i0, f i0)
  | 0, h, _ => absurd h (Nat.not_lt_zero _)
  | N + 1, h, hM => by
    by_cases e : i0 = N
    · subst e
      exact chG_t h0 (mq_cheap h1 h2 i0 (Nat.le_refl _))
    · have ih := mq_cheap2 h0 h1 h2 h3 N (by omega) (by omega)
      by_cases a : ndf N al = 0
      · rw [chG_f2 (by rw [ih]; exact h3 N a (by omega)), ih]
      · rw [chG_f1 a, ih]
theorem mq_first {p : Nat → Bool} {i : Nat} : ∀ {R : List Nat}, R.Pairwise (· < ·) → i ∈ R → p i = true → (R.find? p).getD 0 ≤ i
  | [], _, h, _ => by cases h
  | a :: R, hR, h, hp => by
    cases hb : p a with
    | true =>
      rw [List.find?_cons_of_pos hb]
      show a ≤ i
      rcases List.mem_cons.mp h with q | q
      · omega
      · have := List.rel_of_pairwise_cons hR q
        omega
    | false =>
      rw [List.find?_cons_of_neg (by rw [hb]; decide)]
      refine mq_first (List.Pairwise.of_cons hR) ?_ hp
      rcases List.mem_cons.mp h with q | q
      · rw [q, hb] at hp; cases hp
      · exact q
theorem mq_left (h : bsS w op mu ba en pr n z ≠ 1000000000) : ∀ c, c < n → ∀ i, i ∈ rws w op mu ba en pr c → (2 * i) &&& (bsT w op mu ba en pr n z c).2 = 0 → (bsT w op mu ba en pr n z c).1 ≤ lfS w op mu ba en pr z (n - 1 - c) c i
  | 0, hc, i, hi, _ => by
    have h2 : (bsT w op mu ba en pr n z 0).1 = lsL (rws w op mu ba en pr 0) (fun _ => true) (lfS w op mu ba en pr z (n - 1) 0) 1000000000 := by
      show bsS w op mu ba en pr n z = _
      unfold bsS; rw [if_neg (by omega)]
    rw [h2]
    exact mq_lsl hi rfl
  | c + 1, hc, i, hi, hn => by
    have hB := BEx_all h c (by omega)
    obtain ⟨h1, h2, h3⟩ := BEx_in hB
    have hd : n - 1 - c = (n - 1 - (c + 1)) + 1 := by omega
    have h4 : addc (lsL (rws w op mu ba en pr (c + 1)) (cmpt z (bsR w op mu ba en pr n z c)) (lfS w op mu ba en pr z (n - 1 - (c + 1)) (c + 1)) 1000000000) (coF pr w (op c) (2 * bsR w op mu ba en pr n z c)) = (bsT w op mu ba en pr n z c).1 := by
      rw [← h2, hd]; rfl
    have h5 : lsL (rws w op mu ba en pr (c + 1)) (cmpt z (bsR w op mu ba en pr n z c)) (lfS w op mu ba en pr z (n - 1 - (c + 1)) (c + 1)) 1000000000 ≠ 1000000000 := by
      intro e
      unfold addc at h4
      rw [if_pos e] at h4
      exact hB.1 h4.symm
    have h6 : (bsT w op mu ba en pr n z (c + 1)).1 = lsL (rws w op mu ba en pr (c + 1)) (cmpt z (bsR w op mu ba en pr n z c)) (lfS w op mu ba en pr z (n - 1 - (c + 1)) (c + 1)) 1000000000 := by
      unfold addc at h4
      rw [if_neg h5] at h4
      show (bsT w op mu ba en pr n z c).1 - coF pr w (op c) (2 * bsR w op mu ba en pr n z c) = _
      omega
    rw [h6]
    refine mq_lsl hi ?_
    unfold cmpt
    exact beq_iff_eq.mpr hn
theorem mq_ch1 (hG : GOK w n lap op mu ba la en pr) (h : bsS w op mu ba en pr n z ≠ 1000000000) {c : Nat} (hc : c < n) (hA : ∀ i, i < 2 ^ (w - 1) → (ndf i (alS w n op mu ba en pr z c) = 0 ↔ (2 * i) &&& (bsT w op mu ba en pr n z c).2 = 0)) : chS w n op mu ba en pr z c = bsR w op mu ba en pr n z c := by
  have hb := BEx_all h c hc
  have g3 := hG.2.2.1
  obtain ⟨h1, h2, h3⟩ := BEx_in hb
  obtain ⟨m1, m2⟩ := mq_rws.mp h1
  have ev : ∀ i, i < 2 ^ (w - 1) → pjT w n op mu ba en pr z c i = if rg w op mu ba en pr c i then (if lfS w op mu ba en pr z (n - 1 - c) c i = 1000000000 then 1000000 else lfS w op mu ba en pr z (n - 1 - c) c i) else 1000000 := fun i hi => by
    have := mq_pj (z := z) hG (n - 1 - c) (by omega) i hi
    rw [show n - 1 - (n - 1 - c) = c by omega] at this
    exact this
  have e0 : pjT w n op mu ba en pr z c (bsR w op mu ba en pr n z c) = (bsT w op mu ba en pr n z c).1 := by
    rw [ev _ m1, m2, if_pos rfl, h2, if_neg hb.1]
  have hsm : (bsT w op mu ba en pr n z c).1 ≤ 8000 := by
    rcases mq_lf8 (op := op) (mu := mu) (ba := ba) (en := en) (z := z) hG.2.2.2.2.2.2.2.2.2.2.1 hG.2.1 (d := n - 1 - c) (by omega) c (bsR w op mu ba en pr n z c) with q | q
    · rw [h2] at q; exact absurd q hb.1
    · rw [h2] at q; exact q
  have lo : ∀ i, i < 2 ^ (w - 1) → ndf i (alS w n op mu ba en pr z c) = 0 → (bsT w op mu ba en pr n z c).1 ≤ pjT w n op mu ba en pr z c i ∧ (i < bsR w op mu ba en pr n z c → (bsT w op mu ba en pr n z c).1 < pjT w n op mu ba en pr z c i) := by
    intro i hi hn
    rw [ev i hi]
    cases hr : rg w op mu ba en pr c i with
    | false =>
      rw [if_neg (by decide)]
      exact ⟨by omega, fun _ => by omega⟩
    | true =>
      rw [if_pos rfl]
      have k1 := mq_left h c hc i (mq_rws.mpr ⟨hi, hr⟩) ((hA i hi).mp hn)
      split
      · exact ⟨by omega, fun _ => by omega⟩
      · refine ⟨k1, fun hlt => ?_⟩
        rcases Nat.lt_or_ge (bsT w op mu ba en pr n z c).1 (lfS w op mu ba en pr z (n - 1 - c) c i) with q | q
        · exact q
        · exfalso
          have k2 : bpr w op mu ba en pr n z c (bsT w op mu ba en pr n z c) i = true := bpr_t (by omega) ((hA i hi).mp hn)
          have k3 := mq_first (p := bpr w op mu ba en pr n z c (bsT w op mu ba en pr n z c)) (R := rws w op mu ba en pr c) (List.Pairwise.filter _ List.pairwise_lt_range) (mq_rws.mpr ⟨hi, hr⟩) k2
          have k4 : bsR w op mu ba en pr n z c ≤ i := k3
          omega
  have := mq_cheap2 (f := pjT w n op mu ba en pr z c) (al := alS w n op mu ba en pr z c) (i0 := bsR w op mu ba en pr n z c) (M := 2 ^ (w - 1)) ((hA _ m1).mpr h3) (by rw [e0]; omega) (fun i hi hn => by rw [e0]; exact (lo i (by omega) hn).2 hi) (fun i hn hi => by rw [e0]; exact (lo i hi hn).1) (2 ^ (w - 1)) m1 (Nat.le_refl _)
  unfold chS
  rw [this]
theorem mq_al (hG : GOK w n lap op mu ba la en pr) (h : bsS w op mu ba en pr n z ≠ 1000000000) : ∀ c, c < n → ∀ i, i < 2 ^ (w - 1) → (ndf i (alS w n op mu ba en pr z c) = 0 ↔ (2 * i) &&& (bsT w op mu ba en pr n z c).2 = 0)
  | 0, hc, i, hi => by
    have e1 : alS w n op mu ba en pr z 0 = 2 ^ (w - 1) - 1 := rfl
    have e2 : (bsT w op mu ba en pr n z 0).2 = 0 := rfl
    rw [e1, e2]
    exact ⟨fun _ => Nat.and_zero _, fun _ => mq_full hi⟩
  | c + 1, hc, i, hi => by
    have k := mq_ch1 hG h (c := c) (by omega) (mq_al hG h c (by omega))
    have e1 : alS w n op mu ba en pr z (c + 1) = apF w (chS w n op mu ba en pr z c) z := rfl
    have e2 : (bsT w op mu ba en pr n z (c + 1)).2 = arG (2 * bsR w op mu ba en pr n z c) z := rfl
    rw [e1, e2, k, mq_ap hi, ← mq_cm]
    unfold cmpt
    rw [beq_iff_eq]
theorem mq_ch (hG : GOK w n lap op mu ba la en pr) (h : bsS w op mu ba en pr n z ≠ 1000000000) : ∀ q, q < n → chS w n op mu ba en pr z q = bsR w op mu ba en pr n z q := fun q hq => mq_ch1 hG h hq (mq_al hG h q hq)
end MQB
