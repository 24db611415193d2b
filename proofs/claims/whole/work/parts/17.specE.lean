/-! the best wall's rows, the reached rows -/
section BS
variable {w : Nat} {op mu ba en : Nat → Nat} {pr : Nat → Option Nat} {n z c q k : Nat}
theorem lsL_at {R : List Nat} {p : Nat → Bool} {f : Nat → Nat} : ∀ {init : Nat}, lsL R p f init = init ∨ ∃ i, i ∈ R ∧ p i = true ∧ f i = lsL R p f init := by
  induction R with
  | nil => intro init; exact Or.inl rfl
  | cons a R ih =>
    intro init
    have e : lsL (a :: R) p f init = lsL R p f (if p a then (if f a < init then f a else init) else init) := rfl
    rw [e]
    rcases ih (init := if p a then (if f a < init then f a else init) else init) with h | ⟨i, h1, h2, h3⟩
    · rw [h]
      by_cases hp : p a = true
      · rw [if_pos hp]
        by_cases hf : f a < init
        · rw [if_pos hf]
          exact Or.inr ⟨a, List.mem_cons_self, hp, rfl⟩
        · rw [if_neg hf]; exact Or.inl rfl
      · rw [if_neg hp]; exact Or.inl rfl
    · exact Or.inr ⟨i, List.mem_cons_of_mem _ h1, h2, h3⟩
def bpr (w : Nat) (op mu ba en : Nat → Nat) (pr : Nat → Option Nat) (n z c : Nat) (ln : Nat × Nat) (i : Nat) : Bool := lfS w op mu ba en pr z (n - 1 - c) c i == ln.1 && ((2 * i) &&& ln.2 == 0)
def bsP (w : Nat) (op mu ba en : Nat → Nat) (pr : Nat → Option Nat) (n z c : Nat) (ln : Nat × Nat) : Nat := ((rws w op mu ba en pr c).find? (bpr w op mu ba en pr n z c ln)).getD 0
def bsT (w : Nat) (op mu ba en : Nat → Nat) (pr : Nat → Option Nat) (n z : Nat) : Nat → Nat × Nat
  | 0 => (bsS w op mu ba en pr n z, 0)
  | c + 1 => ((bsT w op mu ba en pr n z c).1 - coF pr w (op c) (2 * bsP w op mu ba en pr n z c (bsT w op mu ba en pr n z c)), arG (2 * bsP w op mu ba en pr n z c (bsT w op mu ba en pr n z c)) z)
def bsR (w : Nat) (op mu ba en : Nat → Nat) (pr : Nat → Option Nat) (n z c : Nat) : Nat := bsP w op mu ba en pr n z c (bsT w op mu ba en pr n z c)
theorem lsL_le {R : List Nat} {p : Nat → Bool} {f : Nat → Nat} : ∀ {init : Nat}, lsL R p f init ≤ init := by
  induction R with
  | nil => intro init; exact Nat.le_refl _
  | cons a R ih =>
    intro init
    have e : lsL (a :: R) p f init = lsL R p f (if p a then (if f a < init then f a else init) else init) := rfl
    rw [e]
    refine Nat.le_trans ih ?_
    split
    · split <;> omega
    · exact Nat.le_refl _
theorem bsS_le : bsS w op mu ba en pr n z ≤ 1000000000 := by
  unfold bsS
  split
  · omega
  · exact lsL_le
theorem bsT_le : ∀ c, (bsT w op mu ba en pr n z c).1 ≤ 1000000000
  | 0 => bsS_le
  | c + 1 => by
    have h := bsT_le c
    exact Nat.le_trans (Nat.sub_le _ _) h
theorem bsP_lt (hw : w ≤ 10) (ln : Nat × Nat) : bsP w op mu ba en pr n z c ln < 512 := by
  have : 2 ^ (w - 1) ≤ 2 ^ 9 := Nat.pow_le_pow_right (by decide) (by omega)
  unfold bsP
  cases h : (rws w op mu ba en pr c).find? (bpr w op mu ba en pr n z c ln) with
  | none => simp
  | some i =>
    have h1 : i < 2 ^ (w - 1) := rgL_lt (List.mem_of_find?_eq_some h)
    simp
    omega
theorem bsP_lt2 (hw : 1 ≤ w) (ln : Nat × Nat) : 2 * bsP w op mu ba en pr n z c ln < 2 ^ w := by
  have e : 2 ^ w = 2 * 2 ^ (w - 1) := by conv => (lhs; rw [show w = (w - 1) + 1 by omega, Nat.pow_succ, Nat.mul_comm])
  have p0 : 0 < 2 ^ (w - 1) := Nat.pow_pos (by decide)
  unfold bsP
  cases h : (rws w op mu ba en pr c).find? (bpr w op mu ba en pr n z c ln) with
  | none => simp; omega
  | some i =>
    have h1 : i < 2 ^ (w - 1) := rgL_lt (List.mem_of_find?_eq_some h)
    simp
    omega
theorem bsT2_lt (hw : w ≤ 10) (hz : z ≤ 3) : ∀ c, (bsT w op mu ba en pr n z c).2 < 4096
  | 0 => by show 0 < 4096; decide
  | c + 1 => by
    unfold bsT
    have := bsP_lt (op := op) (mu := mu) (ba := ba) (en := en) (pr := pr) (n := n) (z := z) (c := c) hw (bsT w op mu ba en pr n z c)
    exact arG_lt (by omega) z hz
/-- at course c there is a row that goes on with the best -/
def BEx (w : Nat) (op mu ba en : Nat → Nat) (pr : Nat → Option Nat) (n z c : Nat) : Prop := (bsT w op mu ba en pr n z c).1 ≠ 1000000000 ∧ ∃ i, i ∈ rws w op mu ba en pr c ∧ bpr w op mu ba en pr n z c (bsT w op mu ba en pr n z c) i = true
theorem BEx_0 (hn : 0 < n) (h : bsS w op mu ba en pr n z ≠ 1000000000) : BEx w op mu ba en pr n z 0 := by
  refine ⟨h, ?_⟩
  have h2 : bsS w op mu ba en pr n z = lsL (rws w op mu ba en pr 0) (fun _ => true) (lfS w op mu ba en pr z (n - 1) 0) 1000000000 := by
    unfold bsS; rw [if_neg (by omega)]
  rcases lsL_at (R := rws w op mu ba en pr 0) (p := fun _ => true) (f := lfS w op mu ba en pr z (n - 1) 0) (init := 1000000000) with e | ⟨i, h3, -, h4⟩
  · exact absurd (h2.trans e) h
  · refine ⟨i, h3, ?_⟩
    unfold bpr bsT
    rw [← h2] at h4
    simp [h4]
theorem find_p {R : List Nat} {p : Nat → Bool} (h : ∃ i, i ∈ R ∧ p i = true) : (R.find? p).getD 0 ∈ R ∧ p ((R.find? p).getD 0) = true := by
  obtain ⟨i, h1, h2⟩ := h
  cases hf : R.find? p with
  | none => exact absurd h2 (by simpa using List.find?_eq_none.mp hf i h1)
  | some x => exact ⟨List.mem_of_find?_eq_some hf, List.find?_some hf⟩
theorem BEx_in (h : BEx w op mu ba en pr n z c) : bsR w op mu ba en pr n z c ∈ rws w op mu ba en pr c ∧ lfS w op mu ba en pr z (n - 1 - c) c (bsR w op mu ba en pr n z c) = (bsT w op mu ba en pr n z c).1 ∧ (2 * bsR w op mu ba en pr n z c) &&& (bsT w op mu ba en pr n z c).2 = 0 := by
  obtain ⟨h1, h2⟩ := find_p h.2
  refine ⟨h1, ?_⟩
  have h3 : bpr w op mu ba en pr n z c (bsT w op mu ba en pr n z c) (bsR w op mu ba en pr n z c) = true := h2
  unfold bpr at h3
  simpa using h3
theorem BEx_co (h : BEx w op mu ba en pr n z c) : coF pr w (op c) (2 * bsR w op mu ba en pr n z c) ≤ (bsT w op mu ba en pr n z c).1 := by
  obtain ⟨h1, h2, h3⟩ := BEx_in h
  rw [← h2]
  cases hd : n - 1 - c with
  | zero => exact Nat.le_refl _
  | succ d =>
    show _ ≤ addc _ _
    unfold addc
    split
    · next e =>
      exfalso
      apply h.1
      rw [← h2, hd]
      show addc _ _ = _
      unfold addc
      rw [if_pos e]
    · omega
theorem BEx_s (hc : c + 1 < n) (h : BEx w op mu ba en pr n z c) : BEx w op mu ba en pr n z (c + 1) := by
  obtain ⟨h1, h2, h3⟩ := BEx_in h
  have hd : n - 1 - c = (n - 1 - (c + 1)) + 1 := by omega
  have h4 : addc (lsL (rws w op mu ba en pr (c + 1)) (cmpt z (bsR w op mu ba en pr n z c)) (lfS w op mu ba en pr z (n - 1 - (c + 1)) (c + 1)) 1000000000) (coF pr w (op c) (2 * bsR w op mu ba en pr n z c)) = (bsT w op mu ba en pr n z c).1 := by
    rw [← h2, hd]; rfl
  have h5 : lsL (rws w op mu ba en pr (c + 1)) (cmpt z (bsR w op mu ba en pr n z c)) (lfS w op mu ba en pr z (n - 1 - (c + 1)) (c + 1)) 1000000000 ≠ 1000000000 := by
    intro e
    unfold addc at h4
    rw [if_pos e] at h4
    exact h.1 h4.symm
  have h6 : (bsT w op mu ba en pr n z (c + 1)).1 = lsL (rws w op mu ba en pr (c + 1)) (cmpt z (bsR w op mu ba en pr n z c)) (lfS w op mu ba en pr z (n - 1 - (c + 1)) (c + 1)) 1000000000 := by
    unfold addc at h4
    rw [if_neg h5] at h4
    show (bsT w op mu ba en pr n z c).1 - coF pr w (op c) (2 * bsR w op mu ba en pr n z c) = _
    omega
  refine ⟨by rw [h6]; exact h5, ?_⟩
  rcases lsL_at (R := rws w op mu ba en pr (c + 1)) (p := cmpt z (bsR w op mu ba en pr n z c)) (f := lfS w op mu ba en pr z (n - 1 - (c + 1)) (c + 1)) (init := 1000000000) with e | ⟨i, g1, g2, g3⟩
  · exact absurd e h5
  · refine ⟨i, g1, ?_⟩
    unfold bpr
    rw [g3, h6]
    unfold cmpt at g2
    show (_ == _ && ((2 * i) &&& arG (2 * bsR w op mu ba en pr n z c) z == 0)) = true
    rw [g2]
    simp
theorem BEx_end (hn : 0 < n) (hc : c = n - 1) (h : BEx w op mu ba en pr n z c) : (bsT w op mu ba en pr n z n).1 = 0 := by
  obtain ⟨h1, h2, h3⟩ := BEx_in h
  have e : n = c + 1 := by omega
  have e2 : n - 1 - c = 0 := by omega
  rw [e2] at h2
  have h4 : coF pr w (op c) (2 * bsR w op mu ba en pr n z c) = (bsT w op mu ba en pr n z c).1 := h2
  have h5 : (bsT w op mu ba en pr n z (c + 1)).1 = (bsT w op mu ba en pr n z c).1 - coF pr w (op c) (2 * bsR w op mu ba en pr n z c) := rfl
  have h6 : (bsT w op mu ba en pr n z (c + 1)).1 = 0 := by rw [h5, h4, Nat.sub_self]
  have h7 : bsT w op mu ba en pr n z n = bsT w op mu ba en pr n z (c + 1) := congrArg (bsT w op mu ba en pr n z) e
  rw [h7]
  exact h6
theorem BEx_all (h : bsS w op mu ba en pr n z ≠ 1000000000) : ∀ c, c < n → BEx w op mu ba en pr n z c
  | 0, hc => BEx_0 hc h
  | c + 1, hc => BEx_s hc (BEx_all h c (by omega))
theorem bs_sum (h : bsS w op mu ba en pr n z ≠ 1000000000) : ∀ c, c ≤ n → sumN (fun q => coF pr w (op q) (2 * bsR w op mu ba en pr n z q)) c + (bsT w op mu ba en pr n z c).1 = bsS w op mu ba en pr n z
  | 0, _ => by show 0 + bsS w op mu ba en pr n z = _; omega
  | c + 1, hc => by
    have h1 := bs_sum h c (by omega)
    have h2 := BEx_co (BEx_all h c (by omega))
    have h5 : (bsT w op mu ba en pr n z (c + 1)).1 = (bsT w op mu ba en pr n z c).1 - coF pr w (op c) (2 * bsR w op mu ba en pr n z c) := rfl
    rw [h5]
    show sumN _ c + coF pr w (op c) (2 * bsR w op mu ba en pr n z c) + _ = _
    omega
theorem bs_total (h : bsS w op mu ba en pr n z ≠ 1000000000) : sumN (fun q => coF pr w (op q) (2 * bsR w op mu ba en pr n z q)) n = bsS w op mu ba en pr n z := by
  by_cases hn : n = 0
  · unfold bsS
    rw [if_pos hn, hn]
    rfl
  · have h1 := bs_sum h n (Nat.le_refl _)
    rw [BEx_end (by omega) rfl (BEx_all h (n - 1) (by omega))] at h1
    exact h1
theorem bsI_n (h : bsS w op mu ba en pr n z = 1000000000) : bsI w op mu ba en pr n z = -9 := by unfold bsI; rw [if_pos h]
theorem bsI_y (h : bsS w op mu ba en pr n z ≠ 1000000000) : bsI w op mu ba en pr n z = nI (bsS w op mu ba en pr n z) := by unfold bsI; rw [if_neg h]
theorem nI_m9 {k : Nat} (h : k < 2 ^ 31) : ¬ nI k = -9 := by
  intro e
  have := congrArg Int32.toInt e
  rw [nI_toInt h] at this
  have h2 : (-9 : Int32).toInt = -9 := by decide
  omega
theorem ex_lt {R : List Nat} {p : Nat → Bool} {k : Nat} (h : ∃ i, i ∈ R ∧ p i = true) (hk : ∀ q, q < k → p (R.getD q 0) = false) : k < R.length := by
  obtain ⟨i, h1, h2⟩ := h
  obtain ⟨q, hq, e⟩ := List.mem_iff_getElem.mp h1
  rcases Nat.lt_or_ge k R.length with h3 | h3
  · exact h3
  · have h4 := hk q (by omega)
    rw [List.getD_eq_getElem?_getD, List.getElem?_eq_getElem hq, Option.getD_some, e, h2] at h4
    cases h4
theorem find_k {R : List Nat} {p : Nat → Bool} : ∀ {k : Nat}, k < R.length → p (R.getD k 0) = true → (∀ q, q < k → p (R.getD q 0) = false) → R.find? p = some (R.getD k 0) := by
  induction R with
  | nil => intro k h; exact absurd h (Nat.not_lt_zero k)
  | cons a R ih =>
    intro k h1 h2 h3
    cases k with
    | zero =>
      have h4 : p a = true := h2
      rw [List.find?_cons_of_pos h4]
      rfl
    | succ k =>
      have h4 : p a = false := h3 0 (Nat.succ_pos k)
      rw [List.find?_cons_of_neg (by rw [h4]; decide)]
      rw [ih (k := k) (by simpa using h1) (by simpa using h2) (fun q hq => by simpa using h3 (q + 1) (by omega))]
      simp
theorem bsR_k (h1 : k < (rws w op mu ba en pr c).length) (h2 : bpr w op mu ba en pr n z c (bsT w op mu ba en pr n z c) ((rws w op mu ba en pr c).getD k 0) = true) (h3 : ∀ q, q < k → bpr w op mu ba en pr n z c (bsT w op mu ba en pr n z c) ((rws w op mu ba en pr c).getD q 0) = false) : bsR w op mu ba en pr n z c = (rws w op mu ba en pr c).getD k 0 := by
  unfold bsR bsP
  rw [find_k h1 h2 h3]
  rfl
def lyF (la f : Nat → Nat) (k : Nat) : Nat → Nat := fun q => if q < k then f q else la q
theorem lyF_0 {la f : Nat → Nat} : lyF la f 0 = la := by
  funext q
  unfold lyF
  rw [if_neg (Nat.not_lt_zero q)]
theorem lyF_s {la f : Nat → Nat} {k : Nat} : va_up (lyF la f k) k (f k) = lyF la f (k + 1) := by
  funext q
  unfold va_up lyF
  by_cases e : q = k
  · subst e; simp
  · rw [if_neg e]
    by_cases h : q < k
    · rw [if_pos h, if_pos (by omega)]
    · rw [if_neg h, if_neg (by omega)]
theorem GOK_ly {lap : Nat} {la : Nat → Nat} (hG : GOK w n lap op mu ba la en pr) (k : Nat) (hk : k ≤ n) (zz : Nat) : GOK w n lap op mu ba (lyF la (fun q => 2 * bsR w op mu ba en pr n zz q) k) en pr := by
  obtain ⟨g1, g2, g3, g4, g5, g6, g7, g8, g9, g10, g11, g12, g13, g14, g15, g16, g17, g18, g19⟩ := hG
  refine ⟨g1, g2, g3, g4, g5, g6, g7, g8, fun i => ?_, g10, g11, g12, g13, g14, fun i hi => ?_, g16, g17, fun i => ?_, g19⟩
  · unfold lyF
    split
    · have := bsP_lt (op := op) (mu := mu) (ba := ba) (en := en) (pr := pr) (n := n) (z := zz) (c := i) g2 (bsT w op mu ba en pr n zz i)
      show 2 * bsP w op mu ba en pr n zz i (bsT w op mu ba en pr n zz i) < 1024
      omega
    · exact g9 i
  · unfold lyF
    split
    · exact bsP_lt2 (by omega) _
    · exact g15 i hi
  · unfold lyF
    split
    · exact Nat.mul_mod_right 2 _
    · exact g18 i
def rcS (w : Nat) (op mu ba en : Nat → Nat) (pr : Nat → Option Nat) (z : Nat) : Nat → Nat → Bool
  | 0, _ => true
  | c + 1, i => (rws w op mu ba en pr c).any (fun i' => rcS w op mu ba en pr z c i' && cmpt z i' i)
def anyG (R : List Nat) (p : Nat → Bool) (k : Nat) : Bool := (R.take k).any p
theorem anyG_s {R : List Nat} {p : Nat → Bool} {k : Nat} (h : k < R.length) : anyG R p (k + 1) = (anyG R p k || p (R.getD k 0)) := by
  unfold anyG
  rw [take_s R h, List.any_append]
  simp
theorem anyG_all {R : List Nat} {p : Nat → Bool} : anyG R p R.length = R.any p := by unfold anyG; rw [List.take_length]
theorem anyG_t {R : List Nat} {p : Nat → Bool} {k : Nat} (h : anyG R p k = true) : R.any p = true := by
  unfold anyG at h
  obtain ⟨x, h1, h2⟩ := List.any_eq_true.mp h
  exact List.any_eq_true.mpr ⟨x, List.mem_of_mem_take h1, h2⟩
def hgG (f : Nat → Bool) : Nat → Nat → Nat
  | 0, c => c
  | d + 1, c => if f c then hgG f d (c + 1) else c
theorem hgG_t {f : Nat → Bool} {n c : Nat} (h : c < n) (hf : f c = true) : hgG f (n - c) c = hgG f (n - (c + 1)) (c + 1) := by
  rw [show n - c = (n - (c + 1)) + 1 by omega]
  conv => lhs; unfold hgG
  rw [if_pos hf]
theorem hgG_f {f : Nat → Bool} {n c : Nat} (h : c < n) (hf : f c = false) : hgG f (n - c) c = c := by
  rw [show n - c = (n - (c + 1)) + 1 by omega]
  unfold hgG
  rw [if_neg (by rw [hf]; decide)]
end BS
section BS2
variable {w : Nat} {op mu ba en : Nat → Nat} {pr : Nat → Option Nat} {n z c q k j : Nat} {t : MSc}
theorem SOK_bt {i : Nat} {b : Nat} (h : SOK t) (hb : b < 512) : SOK (t.1, t.2.1, t.2.2.1, t.2.2.2.1, va_up t.2.2.2.2.1 i (2 * b), t.2.2.2.2.2) := by
  refine ⟨h.1, h.2.1, h.2.2.1, fun r => ?_⟩
  show va_up t.2.2.2.2.1 i (2 * b) r < 1024
  unfold va_up
  split
  · omega
  · exact h.2.2.2 r
theorem bt_s {f g : Nat → Nat} {k : Nat} (h : ∀ q, q < k → f q = g q) : ∀ q, q < k + 1 → va_up f k (g k) q = g q := by
  intro q hq
  unfold va_up
  split
  · next e => rw [e]
  · exact h q (by omega)
theorem jn_s {p : Nat → Bool} {R : List Nat} {j : Nat} (h : ∀ q, q < j → p (R.getD q 0) = false) (hj : p (R.getD j 0) = false) : ∀ q, q < j + 1 → p (R.getD q 0) = false := by
  intro q hq
  by_cases e : q = j
  · rw [e]; exact hj
  · exact h q (by omega)
theorem bpr_f1 {ln : Nat × Nat} {i : Nat} (h : ¬ lfS w op mu ba en pr z (n - 1 - c) c i = ln.1) : bpr w op mu ba en pr n z c ln i = false := by
  unfold bpr
  simp [h]
theorem bpr_f2 {ln : Nat × Nat} {i : Nat} (h : ¬ (2 * i) &&& ln.2 = 0) : bpr w op mu ba en pr n z c ln i = false := by
  unfold bpr
  simp [h]
theorem bpr_t {ln : Nat × Nat} {i : Nat} (h1 : lfS w op mu ba en pr z (n - 1 - c) c i = ln.1) (h : (2 * i) &&& ln.2 = 0) : bpr w op mu ba en pr n z c ln i = true := by
  unfold bpr
  simp [h, h1]
theorem sumN_congr {f g : Nat → Nat} : ∀ n, (∀ q, q < n → f q = g q) → sumN f n = sumN g n
  | 0, _ => rfl
  | n + 1, h => by
    unfold sumN
    rw [sumN_congr n (fun q hq => h q (by omega)), h n (by omega)]
theorem ly_total {la : Nat → Nat} (h : bsS w op mu ba en pr n z ≠ 1000000000) : sumN (fun q => coF pr w (op q) (lyF la (fun q => 2 * bsR w op mu ba en pr n z q) n q)) n = bsS w op mu ba en pr n z := by
  rw [← bs_total h]
  refine sumN_congr n (fun q hq => ?_)
  unfold lyF
  rw [if_pos hq]
theorem rc_0 {R : List Nat} {p : Nat → Bool} {i : Nat} (h : c = 0) : (decide (c = 0) || anyG R p j) = rcS w op mu ba en pr z c i := by
  subst h
  rfl
theorem rc_e {i : Nat} (h : 0 < c) (hj : j = (rws w op mu ba en pr (c - 1)).length) : (decide (c = 0) || anyG (rws w op mu ba en pr (c - 1)) (fun i9 => rcS w op mu ba en pr z (c - 1) i9 && cmpt z i9 i) j) = rcS w op mu ba en pr z c i := by
  obtain ⟨d, rfl⟩ : ∃ d, c = d + 1 := ⟨c - 1, by omega⟩
  rw [hj, anyG_all]
  rfl
theorem rc_t {i : Nat} (h : 0 < c) (hj : (decide (c = 0) || anyG (rws w op mu ba en pr (c - 1)) (fun i9 => rcS w op mu ba en pr z (c - 1) i9 && cmpt z i9 i) j) = true) : (decide (c = 0) || anyG (rws w op mu ba en pr (c - 1)) (fun i9 => rcS w op mu ba en pr z (c - 1) i9 && cmpt z i9 i) j) = rcS w op mu ba en pr z c i := by
  obtain ⟨d, rfl⟩ : ∃ d, c = d + 1 := ⟨c - 1, by omega⟩
  rw [hj]
  simp only [Nat.add_one_ne_zero, decide_false, Bool.false_or] at hj
  exact (anyG_t hj).symm
theorem rc_s1 {R : List Nat} {p : Nat → Bool} {i : Nat} (hj : j < R.length) (h0 : (decide (c = 0) || anyG R (fun i9 => p i9 && cmpt z i9 i) j) = false) (h1 : p (R.getD j 0) = true) (h2 : arG (2 * R.getD j 0) z &&& (2 * i) = 0) : (decide (c = 0) || anyG R (fun i9 => p i9 && cmpt z i9 i) (j + 1)) = true := by
  rw [anyG_s hj]
  unfold cmpt
  rw [Nat.and_comm, h2, h1]
  simp
theorem rc_s0a {R : List Nat} {p : Nat → Bool} {i : Nat} (hj : j < R.length) (h0 : (decide (c = 0) || anyG R (fun i9 => p i9 && cmpt z i9 i) j) = false) (h1 : p (R.getD j 0) = false) : (decide (c = 0) || anyG R (fun i9 => p i9 && cmpt z i9 i) (j + 1)) = false := by
  rw [anyG_s hj, h1, ← Bool.or_assoc, h0]
  rfl
theorem rc_s0b {R : List Nat} {p : Nat → Bool} {i : Nat} (hj : j < R.length) (h0 : (decide (c = 0) || anyG R (fun i9 => p i9 && cmpt z i9 i) j) = false) (h1 : p (R.getD j 0) = true) (h2 : ¬ arG (2 * R.getD j 0) z &&& (2 * i) = 0) : (decide (c = 0) || anyG R (fun i9 => p i9 && cmpt z i9 i) (j + 1)) = false := by
  rw [anyG_s hj, ← Bool.or_assoc, h0]
  have h3 : cmpt z (R.getD j 0) i = false := by
    unfold cmpt
    rw [Nat.and_comm]
    exact beq_eq_false_iff_ne.mpr h2
  rw [h3, Bool.and_false]
  rfl
theorem re_s {f : Nat → Bool} {g : Nat → Bool} {b : Nat} (h : ∀ q, q < k → f (b + q) = g q) : ∀ q, q < k + 1 → va_up f (b + k) (g k) (b + q) = g q := by
  intro q hq
  unfold va_up
  by_cases e : q = k
  · rw [if_pos (by omega), e]
  · rw [if_neg (by omega)]; exact h q (by omega)
theorem re_o {f g : Nat → Bool} {b : Nat} {v : Bool} (h : ∀ i, i < b → f i = g i) : ∀ i, i < b → va_up f (b + k) v i = g i := by
  intro i hi
  rw [upn (by omega), h i hi]
end BS2
def HgOk (w : Nat) (op mu ba en : Nat → Nat) (pr : Nat → Option Nat) (z k : Nat) (t : MSc) : Prop := ∀ d, d < k → RowsOk w op mu ba en pr d t ∧ ∀ q, q < (rws w op mu ba en pr d).length → t.2.2.2.2.2 (512 * d + q) = rcS w op mu ba en pr z d ((rws w op mu ba en pr d).getD q 0)
section HG
variable {w : Nat} {op mu ba en : Nat → Nat} {pr : Nat → Option Nat} {n z k f : Nat} {t u v : MSc} {g g' : Bool}
theorem hg_rows (hw : w ≤ 10) (h : HgOk w op mu ba en pr z k t) (hu : FRp (rws w op mu ba en pr k) k t u) : HgOk w op mu ba en pr z k u := by
  intro d hd
  obtain ⟨⟨a1, a2⟩, a3⟩ := h d hd
  obtain ⟨h1, h2, h3, h4, h5, h6⟩ := hu
  have hl := rws_len (op := op) (mu := mu) (ba := ba) (en := en) (pr := pr) hw d
  refine ⟨⟨by rw [h3 d (by omega), a1], fun q hq => by rw [h4 _ (by omega), a2 q hq]⟩, fun q hq => ?_⟩
  rw [h5]
  exact a3 q hq
theorem hg_keep (hw : w ≤ 10) (h : HgOk w op mu ba en pr z k u) (_ : FRp (rws w op mu ba en pr k) k t u) (hv : v.1 = u.1 ∧ v.2.1 = u.2.1 ∧ SOK v ∧ (∀ i, i < 512 * k → v.2.2.2.2.2 i = u.2.2.2.2.2 i) ∧ ∀ q, q < (rws w op mu ba en pr k).length → v.2.2.2.2.2 (512 * k + q) = rcS w op mu ba en pr z k ((rws w op mu ba en pr k).getD q 0)) : HgOk w op mu ba en pr z (k + 0) v := by
  intro d hd
  obtain ⟨⟨a1, a2⟩, a3⟩ := h d hd
  have hl := rws_len (op := op) (mu := mu) (ba := ba) (en := en) (pr := pr) hw d
  refine ⟨⟨by rw [hv.1, a1], fun q hq => by rw [hv.2.1, a2 q hq]⟩, fun q hq => by rw [hv.2.2.2.1 _ (by omega), a3 q hq]⟩
theorem hg_next (hw : w ≤ 10) (h : HgOk w op mu ba en pr z k u) (hu : FRp (rws w op mu ba en pr k) k t u) (hv : v.1 = u.1 ∧ v.2.1 = u.2.1 ∧ SOK v ∧ (∀ i, i < 512 * k → v.2.2.2.2.2 i = u.2.2.2.2.2 i) ∧ ∀ q, q < (rws w op mu ba en pr k).length → v.2.2.2.2.2 (512 * k + q) = rcS w op mu ba en pr z k ((rws w op mu ba en pr k).getD q 0)) : HgOk w op mu ba en pr z (k + 1) v := by
  intro d hd
  by_cases e : d = k
  · subst e
    exact ⟨⟨by rw [hv.1]; exact hu.1, fun q hq => by rw [hv.2.1]; exact hu.2.1 q hq⟩, hv.2.2.2.2⟩
  · exact hg_keep hw h hu hv d (by omega)
theorem hm_t (hm : (n - k) + (if g then 1 else 0) < f + 1) (hg : g = true) (hk : k < n) (hg' : g' = true) : (n - (k + 1)) + (if g' then 1 else 0) < f := by
  subst hg; subst hg'
  simp only [if_true] at hm ⊢
  omega
theorem hm_f (hm : (n - k) + (if g then 1 else 0) < f + 1) (hg : g = true) (hg' : g' = false) : (n - (k + 0)) + (if g' then 1 else 0) < f := by
  subst hg; subst hg'
  simp only [if_true] at hm
  simp
  omega
end HG
