/-! rows that are right, what they cost and how many ways there are: the reference's tables -/
theorem upn {α : Type} {f : Nat → α} {k j : Nat} {v : α} (h : j ≠ k) : va_up f k v j = f j := if_neg h
theorem ups {α : Type} {f : Nat → α} {k : Nat} {v : α} : va_up f k v k = v := if_pos rfl
def rg (w : Nat) (op mu ba en : Nat → Nat) (pr : Nat → Option Nat) (ci i : Nat) : Bool := ruF pr w (op ci) (bl op ci) (mu ci) (ba ci) (en (ci % 2 * 2)) (en (ci % 2 * 2 + 1)) (2 * i) == 0
def rgL (w : Nat) (op mu ba en : Nat → Nat) (pr : Nat → Option Nat) (ci N : Nat) : List Nat := (List.range N).filter (rg w op mu ba en pr ci)
def rws (w : Nat) (op mu ba en : Nat → Nat) (pr : Nat → Option Nat) (ci : Nat) : List Nat := rgL w op mu ba en pr ci (2 ^ (w - 1))
def SOK (t : MSc) : Prop := (∀ i, t.1 i ≤ 512) ∧ (∀ i, t.2.1 i < 1024) ∧ (∀ i, t.2.2.1 i = 1000000000 ∨ t.2.2.1 i + 1000 * min (i / 512) 7 ≤ 8000) ∧ ∀ i, t.2.2.2.2.1 i < 1024
def FRp (R : List Nat) (ci : Nat) (sc u : MSc) : Prop := u.1 ci = R.length ∧ (∀ k, k < R.length → u.2.1 (512 * ci + k) = 2 * R.getD k 0) ∧ (∀ i, i ≠ ci → u.1 i = sc.1 i) ∧ (∀ i, (i < 512 * ci ∨ 512 * ci + 512 ≤ i) → u.2.1 i = sc.2.1 i) ∧ u.2.2 = sc.2.2 ∧ SOK u
section RG
variable {w : Nat} {op mu ba en : Nat → Nat} {pr : Nat → Option Nat} {ci : Nat}
theorem rgL_s (N : Nat) : rgL w op mu ba en pr ci (N + 1) = rgL w op mu ba en pr ci N ++ (if rg w op mu ba en pr ci N then [N] else []) := by
  unfold rgL
  rw [List.range_succ, List.filter_append]
  congr 1
  simp only [List.filter_cons, List.filter_nil]
theorem rgL_t {N : Nat} (h : ruF pr w (op ci) (bl op ci) (mu ci) (ba ci) (en (ci % 2 * 2)) (en (ci % 2 * 2 + 1)) (2 * N) = 0) : rgL w op mu ba en pr ci (N + 1) = rgL w op mu ba en pr ci N ++ [N] := by
  rw [rgL_s, if_pos (by unfold rg; rw [h]; rfl)]
theorem rgL_f {N : Nat} (h : ¬ ruF pr w (op ci) (bl op ci) (mu ci) (ba ci) (en (ci % 2 * 2)) (en (ci % 2 * 2 + 1)) (2 * N) = 0) : rgL w op mu ba en pr ci (N + 1) = rgL w op mu ba en pr ci N := by
  rw [rgL_s, if_neg (by unfold rg; simpa using h), List.append_nil]
theorem rgL_le (N : Nat) : (rgL w op mu ba en pr ci N).length ≤ N := by
  unfold rgL
  exact Nat.le_trans (List.length_filter_le _ _) (by rw [List.length_range]; exact Nat.le_refl _)
theorem rgL_lt {N i : Nat} (h : i ∈ rgL w op mu ba en pr ci N) : i < N := List.mem_range.mp (List.mem_filter.mp h).1
end RG
theorem FRp_0 {ci : Nat} {sc : MSc} (h : SOK sc) : FRp [] ci sc (va_up sc.1 ci 0, sc.2.1, sc.2.2.1, sc.2.2.2.1, sc.2.2.2.2.1, sc.2.2.2.2.2) := by
  refine ⟨ups, fun k hk => absurd hk (Nat.not_lt_zero k), fun i hi => upn hi, fun i _ => rfl, rfl, ?_, h.2.1, h.2.2.1, h.2.2.2⟩
  intro i
  show va_up sc.1 ci 0 i ≤ 512
  unfold va_up
  split
  · omega
  · exact h.1 i
theorem FRp_add {R : List Nat} {ci i : Nat} {sc t : MSc} (h : FRp R ci sc t) (hi : i < 512) (hR : R.length < 512) : FRp (R ++ [i]) ci sc (va_up t.1 ci (t.1 ci + 1), va_up t.2.1 (512 * ci + t.1 ci) (2 * i), t.2.2.1, t.2.2.2.1, t.2.2.2.2.1, t.2.2.2.2.2) := by
  obtain ⟨h1, h2, h3, h4, h5, h6⟩ := h
  refine ⟨?_, ?_, ?_, ?_, h5, ?_⟩
  · show va_up t.1 ci (t.1 ci + 1) ci = _
    rw [ups, h1, List.length_append]; rfl
  · intro k hk
    rw [List.length_append] at hk
    have hk2 : k < R.length + 1 := hk
    show va_up t.2.1 (512 * ci + t.1 ci) (2 * i) (512 * ci + k) = _
    unfold va_up
    rw [h1]
    by_cases e : k = R.length
    · subst e
      rw [if_pos rfl]
      simp
    · rw [if_neg (by omega), h2 k (by omega)]
      simp [List.getElem?_append, show k < R.length by omega]
  · intro j hj
    show va_up t.1 ci (t.1 ci + 1) j = _
    rw [upn hj, h3 j hj]
  · intro j hj
    show va_up t.2.1 (512 * ci + t.1 ci) (2 * i) j = _
    rw [upn (by omega), h4 j hj]
  · refine ⟨?_, ?_, h6.2.2.1, h6.2.2.2⟩
    · intro j
      show va_up t.1 ci (t.1 ci + 1) j ≤ 512
      unfold va_up
      split
      · omega
      · exact h6.1 j
    · intro j
      show va_up t.2.1 (512 * ci + t.1 ci) (2 * i) j < 1024
      unfold va_up
      split
      · omega
      · exact h6.2.1 j
def lsG (ra lf : Nat → Nat) (base near init : Nat) : Nat → Nat
  | 0 => init
  | q + 1 => if ra (base + q) &&& near = 0 then (if lf (base + q) < lsG ra lf base near init q then lf (base + q) else lsG ra lf base near init q) else lsG ra lf base near init q
def wyG (ra : Nat → Nat) (wf : Nat → Int64) (base near : Nat) (init : Int64) : Nat → Int64
  | 0 => init
  | q + 1 => if ra (base + q) &&& near = 0 then wyG ra wf base near init q + wf (base + q) else wyG ra wf base near init q
section LS
variable {ra lf : Nat → Nat} {wf : Nat → Int64} {base near init q : Nat} {ini : Int64}
theorem lsG_1 (h : ra (base + q) &&& near = 0) (h1 : lf (base + q) < lsG ra lf base near init q) : lf (base + q) = lsG ra lf base near init (q + 1) := by
  conv => rhs; unfold lsG
  rw [if_pos h, if_pos h1]
theorem lsG_2 (h : ra (base + q) &&& near = 0) (h1 : lsG ra lf base near init q ≤ lf (base + q)) : lsG ra lf base near init q = lsG ra lf base near init (q + 1) := by
  conv => rhs; unfold lsG
  rw [if_pos h, if_neg (by omega)]
theorem lsG_3 (h : ¬ ra (base + q) &&& near = 0) : lsG ra lf base near init q = lsG ra lf base near init (q + 1) := by
  conv => rhs; unfold lsG
  rw [if_neg h]
theorem wyG_1 (h : ra (base + q) &&& near = 0) : wyG ra wf base near ini q + wf (base + q) = wyG ra wf base near ini (q + 1) := by
  conv => rhs; unfold wyG
  rw [if_pos h]
theorem wyG_3 (h : ¬ ra (base + q) &&& near = 0) : wyG ra wf base near ini q = wyG ra wf base near ini (q + 1) := by
  conv => rhs; unfold wyG
  rw [if_neg h]
theorem lsG_le (hi : init ≤ 1000000000) (hl : ∀ i, lf i ≤ 1000000000) : ∀ q, lsG ra lf base near init q ≤ 1000000000
  | 0 => hi
  | q + 1 => by
    unfold lsG
    have := lsG_le hi hl q
    split
    · split
      · exact hl _
      · exact this
    · exact this
end LS
def ffQ (n ci : Nat) (rm : Nat → Nat) : Nat := if ci = n - 1 then 0 else rm (ci + 1)
def ffL (n z ci k : Nat) (sc : MSc) : Nat := lsG sc.2.1 sc.2.2.1 (512 * (ci + 1)) (arG (sc.2.1 (512 * ci + k)) z) (if ci = n - 1 then 0 else 1000000000) (ffQ n ci sc.1)
def ffV (pr : Nat → Option Nat) (w : Nat) (op : Nat → Nat) (n z ci k : Nat) (sc : MSc) : Nat := if ffL n z ci k sc = 1000000000 then 1000000000 else ffL n z ci k sc + coF pr w (op ci) (sc.2.1 (512 * ci + k))
def ffW (n z ci k : Nat) (sc : MSc) : Int64 := wyG sc.2.1 sc.2.2.2.1 (512 * (ci + 1)) (arG (sc.2.1 (512 * ci + k)) z) (if ci = n - 1 then 1 else 0) (ffQ n ci sc.1)
theorem ffV_1 {pr : Nat → Option Nat} {w : Nat} {op : Nat → Nat} {n z ci k q : Nat} {sc : MSc} (hq : q = ffQ n ci sc.1) (h : lsG sc.2.1 sc.2.2.1 (512 * (ci + 1)) (arG (sc.2.1 (512 * ci + k)) z) (if ci = n - 1 then 0 else 1000000000) q = 1000000000) : 1000000000 = ffV pr w op n z ci k sc := by
  unfold ffV ffL
  rw [← hq, if_pos h]
theorem ffV_2 {pr : Nat → Option Nat} {w : Nat} {op : Nat → Nat} {n z ci k q : Nat} {sc : MSc} (hq : q = ffQ n ci sc.1) (h : ¬ lsG sc.2.1 sc.2.2.1 (512 * (ci + 1)) (arG (sc.2.1 (512 * ci + k)) z) (if ci = n - 1 then 0 else 1000000000) q = 1000000000) : lsG sc.2.1 sc.2.2.1 (512 * (ci + 1)) (arG (sc.2.1 (512 * ci + k)) z) (if ci = n - 1 then 0 else 1000000000) q + coF pr w (op ci) (sc.2.1 (512 * ci + k)) = ffV pr w op n z ci k sc := by
  unfold ffV ffL
  rw [← hq, if_neg h]
theorem sub1_lt {k : Nat} (hk : k < 2 ^ 30) (h : nI k - nI 1 < 0) : k = 0 := by
  rw [Int32.lt_iff_toInt_lt, sub_ti hk (by omega), Int32.toInt_zero] at h
  omega
theorem sub1_ge {k : Nat} (hk : k < 2 ^ 30) (h : ¬ nI k - nI 1 < 0) : 1 ≤ k := by
  rw [Int32.lt_iff_toInt_lt, sub_ti hk (by omega), Int32.toInt_zero] at h
  omega
theorem im1 {k : Nat} (h : 1 ≤ k) : nI k - nI 1 + Int32.ofInt (-1) = nI (k - 1) - nI 1 := by
  rw [← pk_sub h, Int32.sub_eq_add_neg (nI k - nI 1)]
  congr 1
