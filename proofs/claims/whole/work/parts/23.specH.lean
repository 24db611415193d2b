/-! pieces between bounds -/
def LB (B lo fr to : Nat) : Prop := lo ≤ fr ∧ fr < to ∧ (fr = lo ∨ B.testBit fr = true) ∧ ∀ y, fr < y → y < to → B.testBit y = false
theorem LB_0 {B lo : Nat} : LB B lo lo (lo + 1) := ⟨Nat.le_refl _, Nat.lt_succ_self _, Or.inl rfl, fun y h1 h2 => by omega⟩
theorem LB_f {B lo fr to : Nat} (h : LB B lo fr to) (hb : B.testBit to = false) : LB B lo fr (to + 1) := by
  obtain ⟨h1, h2, h3, h4⟩ := h
  refine ⟨h1, by omega, h3, fun y h5 h6 => ?_⟩
  by_cases e : y = to
  · rw [e]; exact hb
  · exact h4 y h5 (by omega)
theorem LB_t {B lo fr to : Nat} (h : LB B lo fr to) (hb : B.testBit to = true) : LB B lo to (to + 1) := by
  obtain ⟨h1, h2, h3, h4⟩ := h
  exact ⟨by omega, by omega, Or.inr hb, fun y h5 h6 => by omega⟩
theorem LB_end {B lo fr to : Nat} (h : LB B lo fr (to + 1)) (hb : B.testBit to = true) : fr = to := by
  obtain ⟨h1, h2, h3, h4⟩ := h
  rcases Nat.lt_or_ge fr to with h5 | h5
  · rw [h4 to h5 (by omega)] at hb; cases hb
  · omega
theorem bnd_bit {w o j y : Nat} : (bnd w o j).testBit y = (j.testBit y || o.testBit y || (decide (1 ≤ y) && o.testBit (y - 1)) || decide (w = y)) := by
  unfold bnd
  rw [Nat.testBit_or, Nat.testBit_or, Nat.testBit_or, Nat.testBit_shiftLeft, Nat.testBit_two_pow]
  cases j.testBit y <;> cases o.testBit y <;> rfl
theorem nb_at {b : Nat → Bool} : ∀ {f a t : Nat}, a ≤ t → (∀ y, a ≤ y → y < t → b y = false) → (t = a + f ∨ (t ≤ a + f ∧ b t = true)) → nb b f a = t
  | 0, a, t, h1, _, h3 => by
    rcases h3 with h3 | h3
    · rw [h3]; rfl
    · have : t = a := by omega
      rw [this]; rfl
  | f + 1, a, t, h1, h2, h3 => by
    by_cases e : a = t
    · subst e
      rcases h3 with h3 | h3
      · omega
      · exact nb_t h3.2
    · rw [nb_f (h2 a (Nat.le_refl _) (by omega))]
      exact nb_at (by omega) (fun y h4 h5 => h2 y (by omega) h5) (h3.elim (fun q => Or.inl (by omega)) (fun q => Or.inr ⟨by omega, q.2⟩))
/-- a piece between two bounds -/
theorem KB {w o j fr to : Nat} (hto : to ≤ w) (hlt : fr < to) (hfr : fr = 0 ∨ (bnd w o j).testBit fr = true) (hno : ∀ y, fr < y → y < to → (bnd w o j).testBit y = false) (hb : to = w ∨ (bnd w o j).testBit to = true) :
    beg o j fr = !o.testBit fr ∧ (o.testBit fr = false → lenF w o j fr = to - fr) ∧ ∀ x, fr < x → x < to → beg o j x = false := by
  have hn : ∀ y, fr < y → y < to → j.testBit y = false ∧ o.testBit y = false ∧ o.testBit (y - 1) = false := by
    intro y h1 h2
    have h3 := hno y h1 h2
    rw [bnd_bit] at h3
    simp only [Bool.or_eq_false_iff, Bool.and_eq_false_iff, decide_eq_false_iff_not] at h3
    refine ⟨h3.1.1.1, h3.1.1.2, ?_⟩
    rcases h3.1.2 with h4 | h4
    · omega
    · exact h4
  have hbeg : ∀ x, fr < x → x < to → beg o j x = false := by
    intro x h1 h2
    obtain ⟨a1, a2, a3⟩ := hn x h1 h2
    unfold beg
    rw [a1, a2, a3, beq_eq_false_iff_ne.mpr (show x ≠ 0 by omega)]
    rfl
  refine ⟨?_, fun ho => ?_, hbeg⟩
  · cases ho : o.testBit fr with
    | true => unfold beg; rw [ho]; rfl
    | false =>
      rcases hfr with h | h
      · exact beg_0 ho h
      · rw [bnd_bit, ho] at h
        unfold beg
        rw [ho]
        simp only [Bool.or_false, Bool.or_eq_true, Bool.and_eq_true, decide_eq_true_eq] at h
        rcases h with (h | h) | h
        · simp [h]
        · simp [h.2]
        · omega
  · unfold lenF
    have e : nb (bdy o j) (w - (fr + 1)) (fr + 1) = to := by
      refine nb_at (by omega) (fun y h1 h2 => ?_) ?_
      · obtain ⟨a1, a2, a3⟩ := hn y (by omega) h2
        unfold bdy
        rw [a2, hbeg y (by omega) h2]
        rfl
      · by_cases e2 : to = w
        · left; omega
        · right
          refine ⟨by omega, ?_⟩
          have hb2 : (bnd w o j).testBit to = true := hb.elim (fun q => absurd q e2) (fun q => q)
          have h1 : o.testBit (to - 1) = false := by
            by_cases e3 : to - 1 = fr
            · rw [e3]; exact ho
            · exact (hn (to - 1) (by omega) (by omega)).2.1
          rw [bnd_bit, h1] at hb2
          simp only [Bool.and_false, Bool.or_false, Bool.or_eq_true, decide_eq_true_eq] at hb2
          unfold bdy beg
          cases h2 : o.testBit to with
          | true => rfl
          | false =>
            rcases hb2 with (h3 | h3) | h3
            · rw [h3]; simp
            · rw [h2] at h3; cases h3
            · omega
    rw [e]
theorem sumN_to {F : Nat → Nat} {fr : Nat} : ∀ {to : Nat}, fr < to → (∀ x, fr < x → x < to → F x = 0) → sumN F to = sumN F fr + F fr
  | 0, h, _ => absurd h (Nat.not_lt_zero _)
  | to + 1, h, h2 => by
    by_cases e : fr = to
    · subst e; rfl
    · show sumN F to + F to = _
      rw [sumN_to (by omega) (fun x h3 h4 => h2 x h3 (by omega)), h2 to (by omega) (by omega)]
      rfl
theorem anyN_to {F : Nat → Bool} {fr : Nat} : ∀ {to : Nat}, fr < to → (∀ x, fr < x → x < to → F x = false) → anyN F to = (anyN F fr || F fr)
  | 0, h, _ => absurd h (Nat.not_lt_zero _)
  | to + 1, h, h2 => by
    by_cases e : fr = to
    · subst e; rfl
    · show (anyN F to || F to) = _
      rw [anyN_to (by omega) (fun x h3 h4 => h2 x h3 (by omega)), h2 to (by omega) (by omega), Bool.or_false]
theorem bnd_w {w o j : Nat} : (bnd w o j).testBit w = true := by rw [bnd_bit]; simp
theorem LB_KB {w o j fr to : Nat} (h : LB (bnd w o j) 0 fr to) (hto : to ≤ w) (hb : (bnd w o j).testBit to = true) : beg o j fr = !o.testBit fr ∧ (o.testBit fr = false → lenF w o j fr = to - fr) ∧ ∀ x, fr < x → x < to → beg o j x = false := KB hto h.2.1 h.2.2.1 h.2.2.2 (Or.inr hb)
/-- the tally of the pieces left of a bound -/
def tlP (w o j : Nat) (tl : Nat → Nat) (fr : Nat) : Nat → Nat := fun q => tl q + sumN (pcT w o j q) fr
theorem tlP_0 {w o j : Nat} {tl : Nat → Nat} : tlP w o j tl 0 = tl := rfl
theorem tlP_o {w o j fr to : Nat} {tl : Nat → Nat} (h : LB (bnd w o j) 0 fr to) (hto : to ≤ w) (hb : (bnd w o j).testBit to = true) (ho : o.testBit fr = true) : tlP w o j tl fr = tlP w o j tl to := by
  obtain ⟨k1, k2, k3⟩ := LB_KB h hto hb
  funext q
  unfold tlP
  rw [sumN_to h.2.1 (fun x h1 h2 => by unfold pcT; rw [k3 x h1 h2]; rfl)]
  have : pcT w o j q fr = 0 := by unfold pcT; rw [k1, ho]; rfl
  rw [this]
  rfl
theorem tlP_a {w o j fr to : Nat} {tl : Nat → Nat} (h : LB (bnd w o j) 0 fr to) (hto : to ≤ w) (hb : (bnd w o j).testBit to = true) (ho : o.testBit fr = false) : va_up (tlP w o j tl fr) (to - fr) (tlP w o j tl fr (to - fr) + 1) = tlP w o j tl to := by
  obtain ⟨k1, k2, k3⟩ := LB_KB h hto hb
  funext q
  have e1 : sumN (pcT w o j q) to = sumN (pcT w o j q) fr + pcT w o j q fr := sumN_to h.2.1 (fun x h1 h2 => by unfold pcT; rw [k3 x h1 h2]; rfl)
  have e2 : pcT w o j q fr = if to - fr = q then 1 else 0 := by
    unfold pcT
    rw [k1, k2 ho, ho]
    simp
  unfold va_up tlP
  rw [e1, e2]
  by_cases e : q = to - fr
  · rw [if_pos e, if_pos e.symm, e]; omega
  · rw [if_neg e, if_neg (fun z => e z.symm)]; omega
def r4T (w e0 e1 x L : Nat) : Bool := (decide (x = 0) && !e0.testBit L) || (decide (x + L = w) && !e1.testBit L)
def rbP (pr : Nat → Option Nat) (w b e0 e1 x L : Nat) : Nat := if !prc pr L then 3 else if r4T w e0 e1 x L then 4 else if b.testBit x || b.testBit (x + L - 1) then 5 else if decide (4 < L) && !anyN (fun k => b.testBit (x + k)) L then 6 else 0
def RR (a3 a4 a5 a6 : Bool) : Nat := if a3 then 3 else if a4 then 4 else if a5 then 5 else if a6 then 6 else 0
theorem rbP_le {pr : Nat → Option Nat} {w b e0 e1 x L : Nat} : rbP pr w b e0 e1 x L ≤ 6 := by
  unfold rbP
  repeat (first | omega | split)
theorem RR_le {a3 a4 a5 a6 : Bool} : RR a3 a4 a5 a6 ≤ 6 := by
  cases a3 <;> cases a4 <;> cases a5 <;> cases a6 <;> decide
def sp4 (w o j e0 e1 x : Nat) : Bool := beg o j x && r4T w e0 e1 x (lenF w o j x)
def rpS (pr : Nat → Option Nat) (w o b e0 e1 j fr : Nat) : Nat := RR (anyN (spc pr w o b j 3) fr) (anyN (sp4 w o j e0 e1) fr) (anyN (spc pr w o b j 5) fr) (anyN (spc pr w o b j 6) fr)
theorem RR_m (a3 a4 a5 a6 b3 b4 b5 b6 : Bool) : RR (a3 || b3) (a4 || b4) (a5 || b5) (a6 || b6) = if RR b3 b4 b5 b6 ≠ 0 ∧ (RR a3 a4 a5 a6 = 0 ∨ RR b3 b4 b5 b6 < RR a3 a4 a5 a6) then RR b3 b4 b5 b6 else RR a3 a4 a5 a6 := by
  revert a3 a4 a5 a6 b3 b4 b5 b6
  decide
section RP
variable {pr : Nat → Option Nat} {w o b e0 e1 j fr to : Nat}
theorem rpS_o (h : LB (bnd w o j) 0 fr to) (hto : to ≤ w) (hb : (bnd w o j).testBit to = true) (ho : o.testBit fr = true) : rpS pr w o b e0 e1 j fr = rpS pr w o b e0 e1 j to := by
  obtain ⟨k1, k2, k3⟩ := LB_KB h hto hb
  have z : ∀ r x, fr < x → x < to → spc pr w o b j r x = false := fun r x h1 h2 => by unfold spc; rw [k3 x h1 h2]; rfl
  have z4 : ∀ x, fr < x → x < to → sp4 w o j e0 e1 x = false := fun x h1 h2 => by unfold sp4; rw [k3 x h1 h2]; rfl
  have y : ∀ r, spc pr w o b j r fr = false := fun r => by unfold spc; rw [k1, ho]; rfl
  have y4 : sp4 w o j e0 e1 fr = false := by unfold sp4; rw [k1, ho]; rfl
  unfold rpS
  rw [anyN_to h.2.1 (z 3), anyN_to h.2.1 z4, anyN_to h.2.1 (z 5), anyN_to h.2.1 (z 6), y, y4, y, y]
  simp only [Bool.or_false]
theorem rpS_a (h : LB (bnd w o j) 0 fr to) (hto : to ≤ w) (hb : (bnd w o j).testBit to = true) (ho : o.testBit fr = false) : rpS pr w o b e0 e1 j to = if rbP pr w b e0 e1 fr (to - fr) ≠ 0 ∧ (rpS pr w o b e0 e1 j fr = 0 ∨ rbP pr w b e0 e1 fr (to - fr) < rpS pr w o b e0 e1 j fr) then rbP pr w b e0 e1 fr (to - fr) else rpS pr w o b e0 e1 j fr := by
  obtain ⟨k1, k2, k3⟩ := LB_KB h hto hb
  have z : ∀ r x, fr < x → x < to → spc pr w o b j r x = false := fun r x h1 h2 => by unfold spc; rw [k3 x h1 h2]; rfl
  have z4 : ∀ x, fr < x → x < to → sp4 w o j e0 e1 x = false := fun x h1 h2 => by unfold sp4; rw [k3 x h1 h2]; rfl
  have y : ∀ r, spc pr w o b j r fr = brk pr b fr (to - fr) r := fun r => by unfold spc; rw [k1, ho, k2 ho]; rfl
  have y4 : sp4 w o j e0 e1 fr = r4T w e0 e1 fr (to - fr) := by unfold sp4; rw [k1, ho, k2 ho]; rfl
  have e : rbP pr w b e0 e1 fr (to - fr) = RR (brk pr b fr (to - fr) 3) (r4T w e0 e1 fr (to - fr)) (brk pr b fr (to - fr) 5) (brk pr b fr (to - fr) 6) := rfl
  rw [e]
  unfold rpS
  rw [anyN_to h.2.1 (z 3), anyN_to h.2.1 z4, anyN_to h.2.1 (z 5), anyN_to h.2.1 (z 6), y, y4, y, y]
  exact RR_m _ _ _ _ _ _ _ _
theorem rpS_le : rpS pr w o b e0 e1 j fr ≤ 6 := RR_le
end RP
theorem ppI_n {pr : Nat → Option Nat} {L : Nat} (gpr : ∀ i q, pr i = some q → q ≤ 99) (hL : 1 ≤ L) (h : ppI pr L = -9) : prc pr L = false := by
  unfold ppI at h
  unfold prc
  rw [if_neg (by omega)] at h
  by_cases e : 6 < L
  · simp; intro h2; omega
  · rw [if_neg e] at h
    cases hq : pr L with
    | none => simp
    | some q => rw [hq] at h; exact absurd h (pI_ne (gpr L q hq))
theorem ppI_s {pr : Nat → Option Nat} {L : Nat} (hL : 1 ≤ L) (h : ¬ ppI pr L = -9) : prc pr L = true := by
  unfold ppI at h
  unfold prc
  rw [if_neg (by omega)] at h
  by_cases e : 6 < L
  · rw [if_pos e] at h; exact absurd rfl h
  · rw [if_neg e] at h
    cases hq : pr L with
    | none => rw [hq] at h; exact absurd rfl h
    | some q => simp; omega
theorem ppI_v {pr : Nat → Option Nat} {L : Nat} (hL : 1 ≤ L) (h : prc pr L = true) : ppI pr L = nI (prN pr L) := by
  have h6 := prc_le h
  have e : ppI pr L = pz (-9) pr L := (ppI_3 hL h6).symm
  rw [e]
  exact pz_v hL h
theorem msk {b x L : Nat} : (b &&& (2 ^ (x + L) - 2 ^ x) = 0) ↔ anyN (fun k => b.testBit (x + k)) L = false := by
  have hm : 2 ^ (x + L) - 2 ^ x = (2 ^ L - 1) <<< x := by
    rw [Nat.shiftLeft_eq, Nat.sub_mul, Nat.one_mul, ← Nat.pow_add, Nat.add_comm L x]
  have hb : ∀ y, (2 ^ (x + L) - 2 ^ x).testBit y = (decide (x ≤ y) && decide (y < x + L)) := by
    intro y
    rw [hm, Nat.testBit_shiftLeft, Nat.testBit_two_pow_sub_one]
    by_cases h1 : x ≤ y
    · simp [h1]; omega
    · simp [h1]
  have ha : ∀ L', anyN (fun k => b.testBit (x + k)) L' = false ↔ ∀ k, k < L' → b.testBit (x + k) = false := by
    intro L'
    induction L' with
    | zero => exact ⟨fun _ k h => absurd h (Nat.not_lt_zero k), fun _ => rfl⟩
    | succ L' ih =>
      unfold anyN
      rw [Bool.or_eq_false_iff, ih]
      constructor
      · intro h k hk
        by_cases e : k = L'
        · rw [e]; exact h.2
        · exact h.1 k (by omega)
      · intro h
        exact ⟨fun k hk => h k (by omega), h L' (by omega)⟩
  rw [ha]
  constructor
  · intro h k hk
    have h1 := congrArg (fun z => z.testBit (x + k)) h
    simp only [Nat.testBit_and, hb, Nat.zero_testBit] at h1
    simpa [hk] using h1
  · intro h
    apply Nat.eq_of_testBit_eq
    intro y
    rw [Nat.testBit_and, hb, Nat.zero_testBit]
    by_cases h1 : x ≤ y
    · by_cases h2 : y < x + L
      · have := h (y - x) (by omega)
        rw [show x + (y - x) = y by omega] at this
        simp [this]
      · simp [h2]
    · simp [h1]
/-- what a piece costs, and what one that breaks a rule counts as -/
def pcst (pr : Nat → Option Nat) (w b e0 e1 x L : Nat) : Nat := if rbP pr w b e0 e1 x L = 0 then prN pr L else 1000000
def cbT (pr : Nat → Option Nat) (w o b e0 e1 j x : Nat) : Nat := if beg o j x then pcst pr w b e0 e1 x (lenF w o j x) else 0
def cbJ (lo hi : Nat) : Nat := 2 ^ lo ||| 2 ^ hi
def cbS (pr : Nat → Option Nat) (w o b e0 e1 lo hi k : Nat) : Nat := sumN (fun q => cbT pr w o b e0 e1 (cbJ lo hi) (lo + q)) (k - lo)
def cbF (pr : Nat → Option Nat) (w o b e0 e1 lo hi : Nat) : Nat := min 1000000 (cbS pr w o b e0 e1 lo hi hi)
section CB
variable {pr : Nat → Option Nat} {w o b e0 e1 lo hi fr to : Nat}
theorem cb_bits {y : Nat} (h : lo < y) : (bnd w o (2 ^ hi)).testBit y = (bnd w o (cbJ lo hi)).testBit y := by
  rw [bnd_bit, bnd_bit]
  unfold cbJ
  rw [Nat.testBit_or, Nat.testBit_two_pow, Nat.testBit_two_pow, decide_eq_false (show ¬ lo = y by omega), Bool.false_or]
theorem cb_KB (h : LB (bnd w o (2 ^ hi)) lo fr to) (hh : hi ≤ w) (hto : to ≤ hi) (hb : (bnd w o (2 ^ hi)).testBit to = true) : beg o (cbJ lo hi) fr = !o.testBit fr ∧ (o.testBit fr = false → lenF w o (cbJ lo hi) fr = to - fr) ∧ ∀ x, fr < x → x < to → beg o (cbJ lo hi) x = false := by
  obtain ⟨h1, h2, h3, h4⟩ := h
  refine KB (by omega) h2 ?_ (fun y h5 h6 => by rw [← cb_bits (by omega)]; exact h4 y h5 h6) (Or.inr (by rw [← cb_bits (by omega)]; exact hb))
  rcases h3 with h3 | h3
  · right
    rw [h3, bnd_bit]
    unfold cbJ
    rw [Nat.testBit_or, Nat.testBit_two_pow]
    simp
  · by_cases e : fr = lo
    · right
      rw [e, bnd_bit]
      unfold cbJ
      rw [Nat.testBit_or, Nat.testBit_two_pow]
      simp
    · right
      rw [← cb_bits (by omega)]; exact h3
theorem cbS_o (h : LB (bnd w o (2 ^ hi)) lo fr to) (hh : hi ≤ w) (hto : to ≤ hi) (hb : (bnd w o (2 ^ hi)).testBit to = true) (ho : o.testBit fr = true) : cbS pr w o b e0 e1 lo hi fr = cbS pr w o b e0 e1 lo hi to := by
  obtain ⟨k1, k2, k3⟩ := cb_KB h hh hto hb
  obtain ⟨h1, h2, h3, h4⟩ := h
  unfold cbS
  rw [sumN_to (fr := fr - lo) (to := to - lo) (by omega) (fun x h5 h6 => by show cbT _ _ _ _ _ _ _ (lo + x) = 0; unfold cbT; rw [k3 (lo + x) (by omega) (by omega)]; rfl)]
  have : cbT pr w o b e0 e1 (cbJ lo hi) (lo + (fr - lo)) = 0 := by
    rw [show lo + (fr - lo) = fr by omega]
    unfold cbT; rw [k1, ho]; rfl
  rw [this]
  rfl
theorem cbS_a (h : LB (bnd w o (2 ^ hi)) lo fr to) (hh : hi ≤ w) (hto : to ≤ hi) (hb : (bnd w o (2 ^ hi)).testBit to = true) (ho : o.testBit fr = false) : cbS pr w o b e0 e1 lo hi fr + pcst pr w b e0 e1 fr (to - fr) = cbS pr w o b e0 e1 lo hi to := by
  obtain ⟨k1, k2, k3⟩ := cb_KB h hh hto hb
  obtain ⟨h1, h2, h3, h4⟩ := h
  unfold cbS
  rw [sumN_to (fr := fr - lo) (to := to - lo) (by omega) (fun x h5 h6 => by show cbT _ _ _ _ _ _ _ (lo + x) = 0; unfold cbT; rw [k3 (lo + x) (by omega) (by omega)]; rfl)]
  have : cbT pr w o b e0 e1 (cbJ lo hi) (lo + (fr - lo)) = pcst pr w b e0 e1 fr (to - fr) := by
    rw [show lo + (fr - lo) = fr by omega]
    unfold cbT; rw [k1, ho, k2 ho]; rfl
  rw [this]
theorem sumN_mono {F : Nat → Nat} : ∀ {a b : Nat}, a ≤ b → sumN F a ≤ sumN F b
  | a, 0, h => by rw [Nat.le_zero.mp h]; exact Nat.le_refl _
  | a, b + 1, h => by
    by_cases e : a = b + 1
    · rw [e]; exact Nat.le_refl _
    · exact Nat.le_trans (sumN_mono (by omega)) (Nat.le_add_right _ _)
theorem cbS_mono {k k' : Nat} (h : k ≤ k') : cbS pr w o b e0 e1 lo hi k ≤ cbS pr w o b e0 e1 lo hi k' := sumN_mono (by omega)
end CB
