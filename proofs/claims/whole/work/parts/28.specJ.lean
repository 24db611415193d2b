/-! the rows' costs; counting and weighing tables as the class has them -/
def hpl (i : Nat) : Nat := sumN (fun z => if 2 ^ z ≤ i then 1 else 0) 11
theorem sumN_le_one {a : Nat} : ∀ N, sumN (fun q => if q ≤ a then 1 else 0) N = min (a + 1) N
  | 0 => by rw [Nat.min_zero]; rfl
  | N + 1 => by
    show sumN _ N + (if N ≤ a then 1 else 0) = _
    rw [sumN_le_one N]
    split <;> omega
theorem hpl_e {i z : Nat} (h1 : 2 ^ z ≤ i) (h2 : i < 2 ^ (z + 1)) (hz : z < 11) : hpl i = z + 1 := by
  unfold hpl
  rw [sumN_congr (g := fun q => if q ≤ z then 1 else 0) 11 (fun q hq => ?_), sumN_le_one]
  · omega
  · by_cases e : q ≤ z
    · rw [if_pos e, if_pos (Nat.le_trans (Nat.pow_le_pow_right (by decide) e) h1)]
    · rw [if_neg e, if_neg]
      have := Nat.pow_le_pow_right (n := 2) (by decide) (show z + 1 ≤ q by omega)
      omega
theorem hpl_0 : hpl 0 = 0 := by decide
theorem fwF_0 : fwF 0 = 0 := by decide
theorem fwF_s (z : Nat) : fwF (z + 1) = 2 ^ z := by
  unfold fwF
  rw [Nat.shiftRight_eq_div_pow, Nat.pow_succ]
  omega
theorem hpl_fw {i lw : Nat} (h1 : fwF lw ≤ i) (h2 : i < fwF (lw + 1)) (hl : lw ≤ 10) : hpl i = lw := by
  cases lw with
  | zero =>
    have : i = 0 := by rw [fwF_s] at h2; omega
    rw [this, hpl_0]
  | succ z =>
    rw [fwF_s] at h1 h2
    exact hpl_e h1 h2 (by omega)
theorem fwF_mono {a b : Nat} (h : a ≤ b) : fwF a ≤ fwF b := by
  unfold fwF
  rw [Nat.shiftRight_eq_div_pow, Nat.shiftRight_eq_div_pow]
  exact Nat.div_le_div_right (Nat.pow_le_pow_right (by decide) h)
def slF (pr : Nat → Option Nat) (w o b e0 e1 i : Nat) : Nat := min 1000000 (sumN (cbT pr w o b e0 e1 (2 * i)) (hpl i))
def kpF (o mu ba j : Nat) : Bool := decide (j &&& (o ||| o <<< 1) = 0) && (decide (j &&& mu = mu) && decide (j &&& ba = 0))
def fcF (pr : Nat → Option Nat) (w o b mu ba e0 e1 i : Nat) : Nat := if kpF o mu ba (2 * i) then min 1000000 (sumN (cbT pr w o b e0 e1 (2 * i)) w) else 1000000
def COK (co : Nat → Nat → Nat) : Prop := ∀ c i, co c i ≤ 1000000
def COt (ci : Nat) (co t : Nat → Nat → Nat) : Prop := (∀ c, c ≠ ci → t c = co c) ∧ COK t
theorem COt_up {ci j v : Nat} {co t : Nat → Nat → Nat} (h : COt ci co t) (hv : v ≤ 1000000) : COt ci co (va_up t ci (va_up (t ci) j v)) := by
  refine ⟨fun c hc => by rw [upn hc, h.1 c hc], fun c i => ?_⟩
  by_cases e : c = ci
  · subst e
    rw [ups]
    unfold va_up
    split
    · exact hv
    · exact h.2 _ _
  · rw [upn e]; exact h.2 _ _
def fcC (w : Nat) (op mu ba en : Nat → Nat) (pr : Nat → Option Nat) (ci i : Nat) : Nat := fcF pr w (op ci) (bl op ci) (mu ci) (ba ci) (en (ci % 2 * 2)) (en (ci % 2 * 2 + 1)) i
/-- the table of costs is right for all courses -/
def CoOk (w n : Nat) (op mu ba en : Nat → Nat) (pr : Nat → Option Nat) (co : Nat → Nat → Nat) : Prop := ∀ c i, c < n → i < 2 ^ (w - 1) → co c i = fcC w op mu ba en pr c i
def apF (w i z : Nat) : Nat := ndf (2 ^ (w - 1) - 1) (arG i z)
theorem ndf_bit {a b y : Nat} : (ndf a b).testBit y = (a.testBit y && !b.testBit y) := by
  unfold ndf
  rw [Nat.testBit_xor, Nat.testBit_and]
  cases a.testBit y <;> cases b.testBit y <;> rfl
theorem apF_lt {w i z : Nat} (h : 2 ≤ w) : apF w i z < 2 ^ (w - 1) := by
  have p0 : 0 < 2 ^ (w - 1) := Nat.pow_pos (by decide)
  unfold apF ndf
  exact Nat.xor_lt_two_pow (by omega) (Nat.lt_of_le_of_lt Nat.and_le_left (by omega))
def flt (p : Nat → Bool) (N : Nat) : List Nat := (List.range N).filter p
theorem flt_t {p : Nat → Bool} {k : Nat} (h : p k = true) : (flt p k).length + 1 = (flt p (k + 1)).length := by
  unfold flt
  rw [List.range_succ, List.filter_append]
  simp [h]
theorem flt_f {p : Nat → Bool} {k : Nat} (h : p k = false) : (flt p k).length = (flt p (k + 1)).length := by
  unfold flt
  rw [List.range_succ, List.filter_append]
  simp [h]
theorem flt_at {p : Nat → Bool} {k : Nat} (h : p k = true) : ∀ {N : Nat}, k < N → (flt p k).length < (flt p N).length ∧ (flt p N).getD (flt p k).length 0 = k
  | 0, hN => absurd hN (Nat.not_lt_zero _)
  | N + 1, hN => by
    have e : flt p (N + 1) = flt p N ++ (if p N then [N] else []) := by
      unfold flt
      rw [List.range_succ, List.filter_append]
      simp only [List.filter_cons, List.filter_nil]
    by_cases e2 : k = N
    · subst e2
      rw [e, if_pos h]
      simp
    · obtain ⟨h1, h2⟩ := flt_at h (N := N) (by omega)
      rw [e]
      refine ⟨by rw [List.length_append]; omega, ?_⟩
      rw [List.getD_eq_getElem?_getD, List.getElem?_append_left h1, ← List.getD_eq_getElem?_getD]
      exact h2
def rwG (p : Nat → Bool) (N k : Nat) : Int32 := if k < (flt p N).length then nI (2 * (flt p N).getD k 0) else -9
theorem rwG_1 {p : Nat → Bool} {N k z : Nat} (hk : k < N) (h : p k = true) (hz : (flt p k).length = z) : nI (2 * k) = rwG p N z := by
  obtain ⟨h1, h2⟩ := flt_at h hk
  unfold rwG
  rw [← hz, if_pos h1, h2]
theorem rwG_0 {p : Nat → Bool} {N z : Nat} (h : (flt p N).length ≤ z) : (-9 : Int32) = rwG p N z := by
  unfold rwG
  rw [if_neg (by omega)]
/-! sums, next bounds, pieces: rows of plain arithmetic -/
theorem mq_sum0 {f : Nat → Nat} : ∀ n, (∀ q, q < n → f q = 0) → sumN f n = 0
  | 0, _ => rfl
  | n + 1, h => by
    show sumN f n + f n = 0
    rw [mq_sum0 n (fun q hq => h q (by omega)), h n (by omega)]
theorem mq_split {F : Nat → Nat} (a : Nat) : ∀ k, sumN F (a + k) = sumN F a + sumN (fun q => F (a + q)) k
  | 0 => rfl
  | k + 1 => by
    show sumN F (a + k) + F (a + k) = _ + (sumN (fun q => F (a + q)) k + F (a + k))
    rw [mq_split a k, Nat.add_assoc]
theorem mq_add {f g : Nat → Nat} : ∀ n, sumN (fun q => f q + g q) n = sumN f n + sumN g n
  | 0 => rfl
  | n + 1 => by
    show sumN (fun q => f q + g q) n + (f n + g n) = (sumN f n + f n) + (sumN g n + g n)
    rw [mq_add n]
    omega
theorem mq_swap {f : Nat → Nat → Nat} (m : Nat) : ∀ n, sumN (fun q => sumN (f q) m) n = sumN (fun x => sumN (fun q => f q x) n) m
  | 0 => (mq_sum0 m (fun _ _ => rfl)).symm
  | n + 1 => by
    show sumN (fun q => sumN (f q) m) n + sumN (f n) m = sumN (fun x => sumN (fun q => f q x) n + f n x) m
    rw [mq_swap m n, mq_add]
theorem mq_mul {f : Nat → Nat} {k : Nat} : ∀ n, sumN f n * k = sumN (fun q => f q * k) n
  | 0 => Nat.zero_mul k
  | n + 1 => by
    show (sumN f n + f n) * k = sumN (fun q => f q * k) n + f n * k
    rw [Nat.add_mul, mq_mul n]
theorem mq_one {g : Nat → Nat} {L : Nat} : ∀ N, sumN (fun q => if L = q then g q else 0) N = if L < N then g L else 0
  | 0 => by rw [if_neg (Nat.not_lt_zero L)]; rfl
  | N + 1 => by
    show sumN (fun q => if L = q then g q else 0) N + (if L = N then g N else 0) = _
    rw [mq_one N]
    by_cases e : L = N
    · subst e
      simp
    · simp only [if_neg e, Nat.add_zero]
      by_cases h : L < N
      · rw [if_pos h, if_pos (by omega)]
      · rw [if_neg h, if_neg (by omega)]
theorem mq_ge {f : Nat → Nat} {x : Nat} : ∀ {n : Nat}, x < n → f x ≤ sumN f n
  | 0, h => absurd h (Nat.not_lt_zero _)
  | n + 1, h => by
    show f x ≤ sumN f n + f n
    by_cases e : x = n
    · rw [e]; omega
    · have := mq_ge (f := f) (x := x) (n := n) (by omega)
      omega
theorem mq_all {f : Nat → Bool} : ∀ n, allN f n = true ↔ ∀ x, x < n → f x = true
  | 0 => ⟨fun _ x h => absurd h (Nat.not_lt_zero x), fun _ => rfl⟩
  | n + 1 => by
    show (allN f n && f n) = true ↔ _
    rw [Bool.and_eq_true, mq_all n]
    exact ⟨fun h x hx => if e : x = n then (by rw [e]; exact h.2) else h.1 x (by omega), fun h => ⟨fun x hx => h x (by omega), h n (Nat.lt_succ_self n)⟩⟩
theorem mq_any {f : Nat → Bool} : ∀ n, anyN f n = true ↔ ∃ x, x < n ∧ f x = true
  | 0 => ⟨fun h => absurd h Bool.false_ne_true, fun ⟨x, h, _⟩ => absurd h (Nat.not_lt_zero x)⟩
  | n + 1 => by
    show (anyN f n || f n) = true ↔ _
    rw [Bool.or_eq_true, mq_any n]
    constructor
    · rintro (⟨x, h1, h2⟩ | h)
      · exact ⟨x, by omega, h2⟩
      · exact ⟨n, Nat.lt_succ_self n, h⟩
    · rintro ⟨x, h1, h2⟩
      by_cases e : x = n
      · right; rw [← e]; exact h2
      · left; exact ⟨x, by omega, h2⟩
theorem mq_tb2 {i y : Nat} : (2 * i).testBit (y + 1) = i.testBit y := by
  rw [Nat.testBit_succ, Nat.mul_div_cancel_left _ (by decide)]
theorem mq_tb20 {i : Nat} : (2 * i).testBit 0 = false := by
  rw [Nat.testBit_zero, Nat.mul_mod_right]
  rfl
theorem mq_lt {k w y : Nat} (h : k < 2 ^ w) (hy : k.testBit y = true) : y < w := by
  rcases Nat.lt_or_ge y w with q | q
  · exact q
  · rw [Nat.testBit_lt_two_pow (Nat.lt_of_lt_of_le h (Nat.pow_le_pow_right (by decide) q))] at hy
    cases hy
theorem mq_nbno {b : Nat → Bool} : ∀ {f a y : Nat}, a ≤ y → y < nb b f a → b y = false
  | 0, a, y, h1, h2 => by
    have h3 : y < a := h2
    omega
  | f + 1, a, y, h1, h2 => by
    cases hb : b a with
    | true => rw [nb_t hb] at h2; omega
    | false =>
      rw [nb_f hb] at h2
      by_cases e : y = a
      · rw [e]; exact hb
      · exact mq_nbno (f := f) (a := a + 1) (by omega) h2
theorem mq_nbend {b : Nat → Bool} : ∀ {f a : Nat}, nb b f a = a + f ∨ b (nb b f a) = true
  | 0, a => Or.inl rfl
  | f + 1, a => by
    cases hb : b a with
    | true => right; rw [nb_t hb]; exact hb
    | false =>
      rw [nb_f hb]
      rcases mq_nbend (b := b) (f := f) (a := a + 1) with h | h
      · left; omega
      · right; exact h
theorem mq_nbc {b b' : Nat → Bool} : ∀ {f a t : Nat}, a ≤ t → t ≤ a + f → (∀ y, a ≤ y → y ≤ t → y < a + f → b y = b' y) → (t = a + f ∨ b t = true) → nb b f a = nb b' f a
  | 0, a, t, _, _, _, _ => rfl
  | f + 1, a, t, h1, h2, h3, h4 => by
    have e := h3 a (Nat.le_refl _) h1 (by omega)
    cases hb : b a with
    | true => rw [nb_t hb, nb_t (b := b') (by rw [← e]; exact hb)]
    | false =>
      rw [nb_f hb, nb_f (b := b') (by rw [← e]; exact hb)]
      have : a ≠ t := by
        intro q
        rcases h4 with h4 | h4
        · omega
        · rw [← q, hb] at h4; cases h4
      exact mq_nbc (t := t) (by omega) (by omega) (fun y h5 h6 h7 => h3 y (by omega) h6 (by omega)) (h4.elim (fun q => Or.inl (by omega)) Or.inr)
theorem mq_lno {w o j x y : Nat} (h1 : x < y) (h2 : y < x + lenF w o j x) : bdy o j y = false := by
  have h3 := nb_ge (bdy o j) (w - (x + 1)) (x + 1)
  unfold lenF at h2
  exact mq_nbno (f := w - (x + 1)) (a := x + 1) (by omega) (by omega)
theorem mq_lend {w o j x : Nat} (h : x < w) : x + lenF w o j x = w ∨ bdy o j (x + lenF w o j x) = true := by
  have h3 := nb_ge (bdy o j) (w - (x + 1)) (x + 1)
  have e : x + lenF w o j x = nb (bdy o j) (w - (x + 1)) (x + 1) := by unfold lenF; omega
  rw [e]
  rcases mq_nbend (b := bdy o j) (f := w - (x + 1)) (a := x + 1) with q | q
  · left; omega
  · right; exact q
theorem mq_lc {w o j j' x t : Nat} (h1 : x < t) (h2 : t ≤ w) (h3 : ∀ y, x < y → y ≤ t → y < w → bdy o j y = bdy o j' y) (h4 : t = w ∨ bdy o j t = true) : lenF w o j x = lenF w o j' x := by
  unfold lenF
  rw [mq_nbc (b := bdy o j) (b' := bdy o j') (f := w - (x + 1)) (a := x + 1) (t := t) (by omega) (by omega) (fun y h5 h6 h7 => h3 y (by omega) h6 (by omega)) (h4.elim (fun q => Or.inl (by omega)) Or.inr)]
theorem mq_bc {o j j' x : Nat} (h : x = 0 ∨ j.testBit x = j'.testBit x) : beg o j x = beg o j' x := by
  unfold beg
  rcases h with h | h
  · subst h; simp
  · rw [h]
theorem mq_dc {o j j' y : Nat} (h : y = 0 ∨ j.testBit y = j'.testBit y) : bdy o j y = bdy o j' y := by
  unfold bdy
  rw [mq_bc h]
theorem mq_dj {o j y : Nat} (h : j.testBit y = true) : bdy o j y = true := by
  unfold bdy beg
  rw [h]
  cases o.testBit y <;> simp
theorem mq_hpl {i lw : Nat} (hi : hpl i = lw) (hs : i < 1024) : (∀ y, lw < y → (2 * i).testBit y = false) ∧ (lw = 0 ∨ (2 * i).testBit lw = true) := by
  by_cases e : i = 0
  · subst e
    rw [hpl_0] at hi
    exact ⟨fun y _ => by rw [Nat.mul_zero, Nat.zero_testBit], Or.inl hi.symm⟩
  · have h1 := Nat.log2_self_le e
    have h2 := @Nat.lt_log2_self i
    have h3 : i.log2 < 11 := by
      rcases Nat.lt_or_ge i.log2 11 with q | q
      · exact q
      · have h4 : 2 ^ 11 ≤ 2 ^ i.log2 := Nat.pow_le_pow_right (by decide) q
        have h5 : (2 : Nat) ^ 11 = 2048 := by decide
        omega
    rw [hpl_e h1 h2 h3] at hi
    subst hi
    refine ⟨fun y hy => ?_, Or.inr ?_⟩
    · obtain ⟨k, rfl⟩ : ∃ k, y = k + 1 := ⟨y - 1, by omega⟩
      rw [mq_tb2]
      exact Nat.testBit_lt_two_pow (Nat.lt_of_lt_of_le h2 (Nat.pow_le_pow_right (by decide) (by omega)))
    · rw [mq_tb2]
      exact Nat.testBit_of_two_pow_le_and_two_pow_add_one_gt h1 h2
section MQC
variable {pr : Nat → Option Nat} {w o b e0 e1 j j' lw h x : Nat}
theorem mq_cbc (h1 : beg o j x = beg o j' x) (h2 : lenF w o j x = lenF w o j' x) : cbT pr w o b e0 e1 j x = cbT pr w o b e0 e1 j' x := by
  unfold cbT
  rw [h1, h2]
theorem mq_cbr (hlh : lw < h) (hh : h ≤ w) (hb : ∀ y, lw < y → y < h → j.testBit y = false) (h1 : lw = 0 ∨ j.testBit lw = true) (h2 : h = w ∨ j.testBit h = true) (hx1 : lw ≤ x) (hx2 : x < h) : cbT pr w o b e0 e1 j x = cbT pr w o b e0 e1 (cbJ lw h) x := by
  have hJ : ∀ y, (cbJ lw h).testBit y = (decide (lw = y) || decide (h = y)) := by
    intro y
    unfold cbJ
    rw [Nat.testBit_or, Nat.testBit_two_pow, Nat.testBit_two_pow]
  have hm : ∀ y, lw ≤ y → y ≤ h → y < w → y = 0 ∨ j.testBit y = (cbJ lw h).testBit y := by
    intro y a1 a2 a3
    by_cases k1 : y = lw
    · rcases h1 with q | q
      · left; omega
      · right; rw [hJ, k1, q]; simp
    · by_cases k2 : y = h
      · right
        rcases h2 with q | q
        · omega
        · rw [hJ, k2, q]; simp
      · right
        rw [hJ, hb y (by omega) (by omega), decide_eq_false (show ¬ lw = y by omega), decide_eq_false (show ¬ h = y by omega)]
        rfl
  refine mq_cbc (mq_bc (hm x hx1 (by omega) (by omega))) (mq_lc (t := h) hx2 hh (fun y a1 a2 a3 => mq_dc (hm y (by omega) a2 a3)) ?_)
  exact h2.elim Or.inl (fun q => Or.inr (mq_dj q))
theorem mq_cbl (hlw : lw ≤ w) (hb : ∀ y, y ≤ lw → j.testBit y = j'.testBit y) (h1 : j.testBit lw = true) (hx : x < lw) : cbT pr w o b e0 e1 j x = cbT pr w o b e0 e1 j' x :=
  mq_cbc (mq_bc (Or.inr (hb x (by omega)))) (mq_lc (t := lw) hx hlw (fun y a1 a2 a3 => mq_dc (Or.inr (hb y a2))) (Or.inr (mq_dj h1)))
theorem mq_cbs (hlh : lw < h) (hh : h ≤ w) (hb : ∀ y, lw < y → y < h → j.testBit y = false) (h1 : lw = 0 ∨ j.testBit lw = true) (h2 : h = w ∨ j.testBit h = true) : sumN (cbT pr w o b e0 e1 j) h = sumN (cbT pr w o b e0 e1 j) lw + cbS pr w o b e0 e1 lw h h := by
  have k1 := mq_split (F := cbT pr w o b e0 e1 j) lw (h - lw)
  rw [show lw + (h - lw) = h by omega] at k1
  rw [k1]
  unfold cbS
  rw [sumN_congr (f := fun q => cbT pr w o b e0 e1 j (lw + q)) (g := fun q => cbT pr w o b e0 e1 (cbJ lw h) (lw + q)) (h - lw) (fun q hq => mq_cbr hlh hh hb h1 h2 (by omega) (by omega))]
variable {i : Nat}
theorem mq_slstep (hi : hpl i = lw) (hlh : lw < h) (hh : h < w) (hw : w ≤ 10) (h2 : i < 2 ^ (h - 1)) : min 1000000 (slF pr w o b e0 e1 i + cbF pr w o b e0 e1 lw h) = slF pr w o b e0 e1 (i + 2 ^ (h - 1)) := by
  have p1 : 2 ^ (h - 1) ≤ 2 ^ 8 := Nat.pow_le_pow_right (by decide) (by omega)
  obtain ⟨b1, b2⟩ := mq_hpl hi (by omega)
  have eh : 2 ^ h = 2 * 2 ^ (h - 1) := by conv => (lhs; rw [show h = (h - 1) + 1 by omega, Nat.pow_succ, Nat.mul_comm])
  have ej : 2 * (i + 2 ^ (h - 1)) = 2 ^ h + 2 * i := by omega
  have hlt : 2 * i < 2 ^ h := by omega
  have jb : ∀ y, y < h → (2 ^ h + 2 * i).testBit y = (2 * i).testBit y := fun y hy => Nat.testBit_two_pow_add_gt hy _
  have jh : (2 ^ h + 2 * i).testBit h = true := by rw [Nat.testBit_two_pow_add_eq, Nat.testBit_lt_two_pow hlt]; rfl
  have k1 : hpl (i + 2 ^ (h - 1)) = h := by
    have := hpl_e (i := i + 2 ^ (h - 1)) (z := h - 1) (by omega) (by rw [show h - 1 + 1 = h by omega]; omega) (by omega)
    omega
  have k2 := mq_cbs (pr := pr) (w := w) (o := o) (b := b) (e0 := e0) (e1 := e1) (j := 2 ^ h + 2 * i) hlh (Nat.le_of_lt hh) (fun y a1 a2 => by rw [jb y a2]; exact b1 y a1) (b2.elim Or.inl (fun q => Or.inr (by rw [jb lw hlh]; exact q))) (Or.inr jh)
  have k3 : sumN (cbT pr w o b e0 e1 (2 ^ h + 2 * i)) lw = sumN (cbT pr w o b e0 e1 (2 * i)) lw := sumN_congr lw (fun x hx => (mq_cbl (j := 2 * i) (j' := 2 ^ h + 2 * i) (by omega) (fun y hy => (jb y (by omega)).symm) (b2.elim (fun q => absurd q (by omega)) (fun q => q)) hx).symm)
  unfold slF cbF
  rw [k1, hi, ej, k2, k3]
  omega
theorem mq_fcstep (hi : hpl i = lw) (hlh : lw < w) (hw : w ≤ 10) (h2 : i < 2 ^ (w - 1)) : min 1000000 (slF pr w o b e0 e1 i + cbF pr w o b e0 e1 lw w) = min 1000000 (sumN (cbT pr w o b e0 e1 (2 * i)) w) := by
  have p1 : 2 ^ (w - 1) ≤ 2 ^ 9 := Nat.pow_le_pow_right (by decide) (by omega)
  obtain ⟨b1, b2⟩ := mq_hpl hi (by omega)
  have k2 := mq_cbs (pr := pr) (w := w) (o := o) (b := b) (e0 := e0) (e1 := e1) (j := 2 * i) hlh (Nat.le_refl w) (fun y a1 a2 => b1 y a1) b2 (Or.inl rfl)
  unfold slF cbF
  rw [hi, k2]
  omega
end MQC
section SL
variable {pr : Nat → Option Nat} {w o b mu ba e0 e1 i lw h : Nat} {t : Nat → Nat → Nat} {ci : Nat}
theorem sl_step (hi : hpl i = lw) (hlh : lw < h) (hh : h < w) (hw : w ≤ 10) (h2 : i < 2 ^ (h - 1)) : min 1000000 (slF pr w o b e0 e1 i + cbF pr w o b e0 e1 lw h) = slF pr w o b e0 e1 (i + 2 ^ (h - 1)) := mq_slstep hi hlh hh hw h2
theorem fc_step (hi : hpl i = lw) (hlh : lw < w) (hw : w ≤ 10) (h2 : i < 2 ^ (w - 1)) : min 1000000 (slF pr w o b e0 e1 i + cbF pr w o b e0 e1 lw w) = min 1000000 (sumN (cbT pr w o b e0 e1 (2 * i)) w) := mq_fcstep hi hlh hw h2
theorem sl_0 {co : Nat → Nat → Nat} : ∀ i, i < 2 ^ (1 - 1) → va_up co ci (va_up (co ci) 0 0) ci i = slF pr w o b e0 e1 i := by
  intro i hi
  have e : i = 0 := by simpa using hi
  subst e
  rw [ups, ups]
  unfold slF
  rw [hpl_0]
  rfl
theorem sl_in (k1 : fwF lw ≤ i) (hi : i < fwF (lw + 1)) (k4 : t ci i = slF pr w o b e0 e1 i) (k5 : ∀ q, q < i → t ci (q + 2 ^ (h - 1)) = slF pr w o b e0 e1 (q + 2 ^ (h - 1))) (hlh : lw < h) (hwh : h < w ∧ w ≤ 10) (ef : fwF h = 2 ^ (h - 1)) :
    ∀ q, q < i + 1 → va_up t ci (va_up (t ci) (i + fwF h) (min 1000000 (t ci i + cbF pr w o b e0 e1 lw h))) ci (q + 2 ^ (h - 1)) = slF pr w o b e0 e1 (q + 2 ^ (h - 1)) := by
  intro q hq
  rw [ups, ef]
  by_cases e : q = i
  · subst e
    rw [ups, k4]
    have h3 := fwF_mono (show lw + 1 ≤ h by omega)
    exact sl_step (hpl_fw k1 hi (by omega)) hlh hwh.1 hwh.2 (by omega)
  · rw [upn (by omega)]
    exact k5 q (by omega)
theorem sl_hi {P : Nat → Prop} (h1 : 1 ≤ h) (j4 : ∀ i, i < 2 ^ (h - 1) → P i) (j5 : ∀ i, i < fwF lw → P (i + 2 ^ (h - 1))) (hl : lw = h) : ∀ i, i < 2 ^ (h + 1 - 1) → P i := by
  intro i hi
  subst hl
  have e : lw = (lw - 1) + 1 := by omega
  have ef : fwF lw = 2 ^ (lw - 1) := by conv => (lhs; rw [e, fwF_s])
  by_cases h2 : i < 2 ^ (lw - 1)
  · exact j4 i h2
  · have e3 : 2 ^ (lw + 1 - 1) = 2 * 2 ^ (lw - 1) := by
      rw [show lw + 1 - 1 = (lw - 1) + 1 by omega, Nat.pow_succ, Nat.mul_comm]
    have := j5 (i - 2 ^ (lw - 1)) (by omega)
    rw [show i - 2 ^ (lw - 1) + 2 ^ (lw - 1) = i by omega] at this
    exact this
theorem fc_in1 (k1 : fwF lw ≤ i) (hi : i < fwF (lw + 1)) (k4 : ∀ q, q < i → t ci q = fcF pr w o b mu ba e0 e1 q) (k5 : t ci i = slF pr w o b e0 e1 i) (hlh : lw < w) (hw : w ≤ 10) (hk : kpF o mu ba (2 * i) = true) :
    ∀ q, q < i + 1 → va_up t ci (va_up (t ci) i (min 1000000 (t ci i + cbF pr w o b e0 e1 lw w))) ci q = fcF pr w o b mu ba e0 e1 q := by
  intro q hq
  rw [ups]
  by_cases e : q = i
  · subst e
    rw [ups, k5]
    have h3 : fwF (lw + 1) ≤ 2 ^ (w - 1) := by rw [fwF_s]; exact Nat.pow_le_pow_right (by decide) (by omega)
    rw [fc_step (hpl_fw k1 hi (by omega)) hlh hw (by omega)]
    unfold fcF
    rw [hk]
    rfl
  · rw [upn (by omega)]
    exact k4 q (by omega)
theorem fc_in0 (k1 : fwF lw ≤ i) (hi : i < fwF (lw + 1)) (k4 : ∀ q, q < i → t ci q = fcF pr w o b mu ba e0 e1 q) (k5 : t ci i = slF pr w o b e0 e1 i) (hlh : lw < w) (hw : w ≤ 10) (hk : kpF o mu ba (2 * i) = false) :
    ∀ q, q < i + 1 → va_up t ci (va_up (t ci) i 1000000) ci q = fcF pr w o b mu ba e0 e1 q := by
  intro q hq
  rw [ups]
  by_cases e : q = i
  · subst e
    rw [ups]
    unfold fcF
    rw [hk]
    rfl
  · rw [upn (by omega)]
    exact k4 q (by omega)
end SL
