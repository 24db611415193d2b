/-! the tables as rows of lists; the reference's answers on rows -/
def cmpt (z i i' : Nat) : Bool := (2 * i') &&& arG (2 * i) z == 0
def lsL (R : List Nat) (p : Nat → Bool) (f : Nat → Nat) (init : Nat) : Nat := R.foldl (fun acc i => if p i then (if f i < acc then f i else acc) else acc) init
def wyL (R : List Nat) (p : Nat → Bool) (f : Nat → Int64) (init : Int64) : Int64 := R.foldl (fun acc i => if p i then acc + f i else acc) init
def addc (m k : Nat) : Nat := if m = 1000000000 then 1000000000 else m + k
def lfS (w : Nat) (op mu ba en : Nat → Nat) (pr : Nat → Option Nat) (z : Nat) : Nat → Nat → Nat → Nat
  | 0, c, i => coF pr w (op c) (2 * i)
  | d + 1, c, i => addc (lsL (rws w op mu ba en pr (c + 1)) (cmpt z i) (lfS w op mu ba en pr z d (c + 1)) 1000000000) (coF pr w (op c) (2 * i))
def wyS (w : Nat) (op mu ba en : Nat → Nat) (pr : Nat → Option Nat) (z : Nat) : Nat → Nat → Nat → Int64
  | 0, _, _ => 1
  | d + 1, c, i => wyL (rws w op mu ba en pr (c + 1)) (cmpt z i) (wyS w op mu ba en pr z d (c + 1)) 0
def RowsOk (w : Nat) (op mu ba en : Nat → Nat) (pr : Nat → Option Nat) (c : Nat) (t : MSc) : Prop := t.1 c = (rws w op mu ba en pr c).length ∧ ∀ q, q < (rws w op mu ba en pr c).length → t.2.1 (512 * c + q) = 2 * (rws w op mu ba en pr c).getD q 0
def DoneTo (w : Nat) (op mu ba en : Nat → Nat) (pr : Nat → Option Nat) (n z c : Nat) (t : MSc) (m : Nat) : Prop := ∀ q, q < m → t.2.2.1 (512 * c + q) = lfS w op mu ba en pr z (n - 1 - c) c ((rws w op mu ba en pr c).getD q 0) ∧ t.2.2.2.1 (512 * c + q) = wyS w op mu ba en pr z (n - 1 - c) c ((rws w op mu ba en pr c).getD q 0)
def AllOk (w : Nat) (op mu ba en : Nat → Nat) (pr : Nat → Option Nat) (n z k : Nat) (t : MSc) : Prop := ∀ c, k ≤ c → c < n → RowsOk w op mu ba en pr c t ∧ DoneTo w op mu ba en pr n z c t (rws w op mu ba en pr c).length
theorem take_s (R : List Nat) {q : Nat} (h : q < R.length) : R.take (q + 1) = R.take q ++ [R.getD q 0] := by
  rw [List.take_succ]
  congr 1
  rw [List.getElem?_eq_getElem h]
  simp [List.getElem?_eq_getElem h]
theorem lsG_list {ra lf : Nat → Nat} {base i z init : Nat} {R : List Nat} {f : Nat → Nat} (hra : ∀ q, q < R.length → ra (base + q) = 2 * R.getD q 0) (hlf : ∀ q, q < R.length → lf (base + q) = f (R.getD q 0)) : ∀ q, q ≤ R.length → lsG ra lf base (arG (2 * i) z) init q = lsL (R.take q) (cmpt z i) f init
  | 0, _ => by rw [List.take_zero]; rfl
  | q + 1, h => by
    unfold lsG
    rw [lsG_list hra hlf q (by omega), take_s R (by omega), hra q (by omega), hlf q (by omega)]
    unfold lsL
    rw [List.foldl_append]
    simp only [List.foldl_cons, List.foldl_nil, cmpt, beq_iff_eq]
theorem wyG_list {ra : Nat → Nat} {wf : Nat → Int64} {base i z : Nat} {init : Int64} {R : List Nat} {f : Nat → Int64} (hra : ∀ q, q < R.length → ra (base + q) = 2 * R.getD q 0) (hlf : ∀ q, q < R.length → wf (base + q) = f (R.getD q 0)) : ∀ q, q ≤ R.length → wyG ra wf base (arG (2 * i) z) init q = wyL (R.take q) (cmpt z i) f init
  | 0, _ => by rw [List.take_zero]; rfl
  | q + 1, h => by
    unfold wyG
    rw [wyG_list hra hlf q (by omega), take_s R (by omega), hra q (by omega), hlf q (by omega)]
    unfold wyL
    rw [List.foldl_append]
    simp only [List.foldl_cons, List.foldl_nil, cmpt, beq_iff_eq]
def mnG (f : Nat → Nat) (init : Nat) : Nat → Nat
  | 0 => init
  | q + 1 => if f q < mnG f init q then f q else mnG f init q
def smG (f : Nat → Int64) (init : Int64) : Nat → Int64
  | 0 => init
  | q + 1 => smG f init q + f q
theorem mnG_list {lf : Nat → Nat} {init : Nat} {R : List Nat} {f : Nat → Nat} (hlf : ∀ q, q < R.length → lf q = f (R.getD q 0)) : ∀ q, q ≤ R.length → mnG lf init q = lsL (R.take q) (fun _ => true) f init
  | 0, _ => by rw [List.take_zero]; rfl
  | q + 1, h => by
    unfold mnG
    rw [mnG_list hlf q (by omega), take_s R (by omega), hlf q (by omega)]
    unfold lsL
    rw [List.foldl_append]
    simp only [List.foldl_cons, List.foldl_nil, if_true]
theorem smG_list {wf : Nat → Int64} {init : Int64} {R : List Nat} {f : Nat → Int64} (hlf : ∀ q, q < R.length → wf q = f (R.getD q 0)) : ∀ q, q ≤ R.length → smG wf init q = wyL (R.take q) (fun _ => true) f init
  | 0, _ => by rw [List.take_zero]; rfl
  | q + 1, h => by
    unfold smG
    rw [smG_list hlf q (by omega), take_s R (by omega), hlf q (by omega)]
    unfold wyL
    rw [List.foldl_append]
    simp only [List.foldl_cons, List.foldl_nil, if_true]
section SD
variable {w : Nat} {op mu ba en : Nat → Nat} {pr : Nat → Option Nat} {n z c q : Nat} {t u : MSc}
theorem rws_len (hw : w ≤ 10) (c : Nat) : (rws w op mu ba en pr c).length ≤ 512 := by
  have h := rgL_le (w := w) (op := op) (mu := mu) (ba := ba) (en := en) (pr := pr) (ci := c) (2 ^ (w - 1))
  have : 2 ^ (w - 1) ≤ 2 ^ 9 := Nat.pow_le_pow_right (by decide) (by omega)
  unfold rws
  omega
theorem AO_rows (hw : w ≤ 10) (h : AllOk w op mu ba en pr n z (c + 1) t) (hf : FRp (rws w op mu ba en pr c) c t u) : AllOk w op mu ba en pr n z (c + 1) u ∧ RowsOk w op mu ba en pr c u ∧ DoneTo w op mu ba en pr n z c u 0 := by
  obtain ⟨h1, h2, h3, h4, h5, h6⟩ := hf
  refine ⟨fun d hd hdn => ?_, ⟨h1, h2⟩, fun q hq => absurd hq (Nat.not_lt_zero q)⟩
  obtain ⟨⟨a1, a2⟩, a3⟩ := h d hd hdn
  refine ⟨⟨by rw [h3 d (by omega), a1], fun q hq => by rw [h4 _ (by omega), a2 q hq]⟩, fun q hq => ?_⟩
  rw [h5]
  exact a3 q hq
theorem ffV_lf (hc : c < n) (hq : q < (rws w op mu ba en pr c).length) (h1 : AllOk w op mu ba en pr n z (c + 1) t) (h2 : RowsOk w op mu ba en pr c t) : ffV pr w op n z c q t = lfS w op mu ba en pr z (n - 1 - c) c ((rws w op mu ba en pr c).getD q 0) ∧ ffW n z c q t = wyS w op mu ba en pr z (n - 1 - c) c ((rws w op mu ba en pr c).getD q 0) := by
  by_cases e : c = n - 1
  · have e0 : n - 1 - c = 0 := by omega
    rw [e0]
    have eL : ffL n z c q t = 0 := by
      unfold ffL ffQ
      rw [if_pos e, if_pos e]
      rfl
    constructor
    · unfold ffV
      rw [eL, if_neg (by decide), h2.2 q hq, Nat.zero_add]
      rfl
    · unfold ffW ffQ
      rw [if_pos e, if_pos e]
      rfl
  · obtain ⟨d, hd⟩ : ∃ d, n - 1 - c = d + 1 := ⟨n - 1 - c - 1, by omega⟩
    have hd2 : n - 1 - (c + 1) = d := by omega
    obtain ⟨⟨a1, a2⟩, a3⟩ := h1 (c + 1) (Nat.le_refl _) (by omega)
    have eQ : ffQ n c t.1 = (rws w op mu ba en pr (c + 1)).length := by
      unfold ffQ
      rw [if_neg e, a1]
    rw [hd]
    unfold DoneTo at a3
    rw [hd2] at a3
    constructor
    · have eL : ffL n z c q t = lsL (rws w op mu ba en pr (c + 1)) (cmpt z ((rws w op mu ba en pr c).getD q 0)) (lfS w op mu ba en pr z d (c + 1)) 1000000000 := by
        unfold ffL
        rw [eQ, h2.2 q hq, if_neg e, lsG_list (R := rws w op mu ba en pr (c + 1)) (f := lfS w op mu ba en pr z d (c + 1)) a2 (fun q hq => (a3 q hq).1) _ (Nat.le_refl _), List.take_length]
      unfold ffV
      rw [eL, h2.2 q hq]
      rfl
    · unfold ffW
      rw [eQ, h2.2 q hq, if_neg e, wyG_list (R := rws w op mu ba en pr (c + 1)) (f := wyS w op mu ba en pr z d (c + 1)) a2 (fun q hq => (a3 q hq).2) _ (Nat.le_refl _), List.take_length]
      rfl
theorem AO_from (hw : w ≤ 10) (hc : c < n) (hq : q < (rws w op mu ba en pr c).length) (h1 : AllOk w op mu ba en pr n z (c + 1) t) (h2 : RowsOk w op mu ba en pr c t) (h3 : DoneTo w op mu ba en pr n z c t q) (hu : u = (t.1, t.2.1, va_up t.2.2.1 (512 * c + q) (ffV pr w op n z c q t), va_up t.2.2.2.1 (512 * c + q) (ffW n z c q t), t.2.2.2.2.1, t.2.2.2.2.2)) :
    AllOk w op mu ba en pr n z (c + 1) u ∧ RowsOk w op mu ba en pr c u ∧ DoneTo w op mu ba en pr n z c u (q + 1) := by
  have hl := rws_len (op := op) (mu := mu) (ba := ba) (en := en) (pr := pr) hw c
  obtain ⟨v1, v2⟩ := ffV_lf hc hq h1 h2
  subst hu
  refine ⟨fun d hd hdn => ?_, h2, fun r hr => ?_⟩
  · obtain ⟨a1, a3⟩ := h1 d hd hdn
    refine ⟨a1, fun r hr => ?_⟩
    obtain ⟨b1, b2⟩ := a3 r hr
    refine ⟨?_, ?_⟩
    · show va_up t.2.2.1 _ _ _ = _
      rw [upn (by omega), b1]
    · show va_up t.2.2.2.1 _ _ _ = _
      rw [upn (by omega), b2]
  · by_cases e : r = q
    · subst e
      refine ⟨?_, ?_⟩
      · show va_up t.2.2.1 _ _ _ = _
        rw [ups, v1]
      · show va_up t.2.2.2.1 _ _ _ = _
        rw [ups, v2]
    · obtain ⟨b1, b2⟩ := h3 r (by omega)
      refine ⟨?_, ?_⟩
      · show va_up t.2.2.1 _ _ _ = _
        rw [upn (by omega), b1]
      · show va_up t.2.2.2.1 _ _ _ = _
        rw [upn (by omega), b2]
theorem lsG_ok {ra lf : Nat → Nat} {near init B : Nat} (hi : init = 1000000000 ∨ init + B ≤ 8000) : ∀ q, (∀ r, r < q → lf (512 * c + r) = 1000000000 ∨ lf (512 * c + r) + B ≤ 8000) → (lsG ra lf (512 * c) near init q = 1000000000 ∨ lsG ra lf (512 * c) near init q + B ≤ 8000)
  | 0, _ => hi
  | q + 1, h => by
    have h0 := lsG_ok (ra := ra) (lf := lf) (near := near) hi q (fun r hr => h r (by omega))
    have h9 := h q (by omega)
    unfold lsG
    split
    · split
      · exact h9
      · exact h0
    · exact h0
theorem SOK_from (hw : w ≤ 10) (hpr : ∀ i q, pr i = some q → q ≤ 99) (hn : n ≤ 8) (hc : c < n) (hq : q < 512) (h : SOK t) : SOK (t.1, t.2.1, va_up t.2.2.1 (512 * c + q) (ffV pr w op n z c q t), va_up t.2.2.2.1 (512 * c + q) (ffW n z c q t), t.2.2.2.2.1, t.2.2.2.2.2) := by
  refine ⟨h.1, h.2.1, fun i => ?_, h.2.2.2⟩
  show va_up t.2.2.1 _ _ i = _ ∨ va_up t.2.2.1 _ _ i + _ ≤ _
  unfold va_up
  split
  · next e =>
    have hi : i / 512 = c := by omega
    have hco := coF_le hpr hw (op c) (t.2.1 (512 * c + q))
    have hL : ffL n z c q t = 1000000000 ∨ ffL n z c q t + 1000 * (c + 1) ≤ 8000 := by
      unfold ffL
      by_cases e2 : c = n - 1
      · right
        unfold ffQ
        rw [if_pos e2, if_pos e2]
        show 0 + 1000 * (c + 1) ≤ 8000
        omega
      · rw [if_neg e2]
        refine lsG_ok (c := c + 1) (Or.inl rfl) _ (fun r hr => ?_)
        unfold ffQ at hr
        rw [if_neg e2] at hr
        have h1 := h.1 (c + 1)
        have h3 := h.2.2.1 (512 * (c + 1) + r)
        have h4 : min ((512 * (c + 1) + r) / 512) 7 = c + 1 := by omega
        rw [h4] at h3
        exact h3
    unfold ffV
    rw [hi]
    split
    · exact Or.inl rfl
    · right
      omega
  · exact h.2.2.1 i
def wlS (w : Nat) (op mu ba en : Nat → Nat) (pr : Nat → Option Nat) (n z : Nat) : Int64 := if n = 0 then 1 else wyL (rws w op mu ba en pr 0) (fun _ => true) (wyS w op mu ba en pr z (n - 1) 0) 0
def bsS (w : Nat) (op mu ba en : Nat → Nat) (pr : Nat → Option Nat) (n z : Nat) : Nat := if n = 0 then 0 else lsL (rws w op mu ba en pr 0) (fun _ => true) (lfS w op mu ba en pr z (n - 1) 0) 1000000000
def bsI (w : Nat) (op mu ba en : Nat → Nat) (pr : Nat → Option Nat) (n z : Nat) : Int32 := if bsS w op mu ba en pr n z = 1000000000 then -9 else nI (bsS w op mu ba en pr n z)
theorem wl_e (h : AllOk w op mu ba en pr n z 0 t) (hq : q = if n = 0 then 0 else t.1 0) : smG t.2.2.2.1 (if n = 0 then 1 else 0) q = wlS w op mu ba en pr n z := by
  unfold wlS
  by_cases e : n = 0
  · rw [if_pos e, hq, if_pos e, if_pos e]
    rfl
  · obtain ⟨⟨a1, a2⟩, a3⟩ := h 0 (Nat.le_refl _) (by omega)
    rw [if_neg e, hq, if_neg e, if_neg e, a1, smG_list (R := rws w op mu ba en pr 0) (f := wyS w op mu ba en pr z (n - 1) 0) (fun r hr => by have := (a3 r hr).2; simpa using this) _ (Nat.le_refl _), List.take_length]
theorem bs_e (h : AllOk w op mu ba en pr n z 0 t) (hq : q = if n = 0 then 0 else t.1 0) : mnG t.2.2.1 (if n = 0 then 0 else 1000000000) q = bsS w op mu ba en pr n z := by
  unfold bsS
  by_cases e : n = 0
  · rw [if_pos e, hq, if_pos e, if_pos e]
    rfl
  · obtain ⟨⟨a1, a2⟩, a3⟩ := h 0 (Nat.le_refl _) (by omega)
    rw [if_neg e, hq, if_neg e, if_neg e, a1, mnG_list (R := rws w op mu ba en pr 0) (f := lfS w op mu ba en pr z (n - 1) 0) (fun r hr => by have := (a3 r hr).1; simpa using this) _ (Nat.le_refl _), List.take_length]
theorem mnG_le {f : Nat → Nat} {init : Nat} (hi : init ≤ 1000000000) : ∀ q, mnG f init q ≤ 1000000000
  | 0 => hi
  | q + 1 => by
    unfold mnG
    have := mnG_le (f := f) hi q
    split <;> omega
theorem mnG_1 {f : Nat → Nat} {init q : Nat} (h : f q < mnG f init q) : f q = mnG f init (q + 1) := by
  conv => rhs; unfold mnG
  rw [if_pos h]
theorem mnG_2 {f : Nat → Nat} {init q : Nat} (h : mnG f init q ≤ f q) : mnG f init q = mnG f init (q + 1) := by
  conv => rhs; unfold mnG
  rw [if_neg (by omega)]
end SD
def rwI (w : Nat) (op mu ba en : Nat → Nat) (pr : Nat → Option Nat) (ci k : Nat) : Int32 := if k < (rws w op mu ba en pr ci).length then nI (2 * (rws w op mu ba en pr ci).getD k 0) else -9
theorem wi_m1 : wiI (-1) (-1) (nI 511) = true := by decide
theorem wi_k {k : Nat} (h : k ≤ 511) : wiI (nI k) (-1) (nI 511) = true := by
  refine wiI_t ?_ (by rw [nI_ltI (by omega) (by omega)]; omega)
  intro q
  rw [Int32.lt_iff_toInt_lt, nI_toInt (by omega)] at q
  have : (-1 : Int32).toInt = -1 := by decide
  omega
