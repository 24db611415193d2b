/-! tables over subsets, as the class makes them -/
def zt (f : Nat → Int64) : Nat → Nat → Int64
  | 0, S => f S
  | t + 1, S => if S.testBit t then zt f t S + zt f t (S ^^^ 2 ^ t) else zt f t S
def zm (f : Nat → Nat) : Nat → Nat → Nat
  | 0, S => f S
  | t + 1, S => if S.testBit t then min (zm f t S) (zm f t (S ^^^ 2 ^ t)) else zm f t S
theorem and_pow {i t : Nat} : i &&& 2 ^ t = 0 ↔ i.testBit t = false := by
  constructor
  · intro h
    have := congrArg (fun z => z.testBit t) h
    simpa [Nat.testBit_and, Nat.testBit_two_pow] using this
  · intro h
    apply Nat.eq_of_testBit_eq
    intro y
    rw [Nat.testBit_and, Nat.testBit_two_pow, Nat.zero_testBit]
    by_cases e : t = y
    · subst e; rw [h]; rfl
    · simp [e]
theorem xor_bit {i t : Nat} (h : i.testBit t = true) : (i ^^^ 2 ^ t).testBit t = false := by
  rw [Nat.testBit_xor, Nat.testBit_two_pow, h]; simp
theorem lt_tb {x y t : Nat} (hx : x.testBit t = false) (hy : y.testBit t = true) (h : ∀ j, t < j → x.testBit j = y.testBit j) : x < y := by
  have e : x / 2 ^ (t + 1) = y / 2 ^ (t + 1) := by
    apply Nat.eq_of_testBit_eq
    intro j
    rw [Nat.testBit_div_two_pow, Nat.testBit_div_two_pow]
    exact h _ (by omega)
  have ex : x / 2 ^ t / 2 = x / 2 ^ (t + 1) := by rw [Nat.div_div_eq_div_mul, ← Nat.pow_succ]
  have ey : y / 2 ^ t / 2 = y / 2 ^ (t + 1) := by rw [Nat.div_div_eq_div_mul, ← Nat.pow_succ]
  rw [Nat.testBit_eq_decide_div_mod_eq] at hx hy
  simp only [decide_eq_false_iff_not, decide_eq_true_eq] at hx hy
  have hlt : x / 2 ^ t < y / 2 ^ t := by omega
  rcases Nat.lt_or_ge x y with h1 | h1
  · exact h1
  · exact absurd (Nat.div_le_div_right (c := 2 ^ t) h1) (by omega)
theorem xor_lt {i t : Nat} (h : i.testBit t = true) : i ^^^ 2 ^ t < i := by
  refine lt_tb (xor_bit h) h ?_
  intro j hj
  rw [Nat.testBit_xor, Nat.testBit_two_pow]
  simp [show ¬ t = j by omega]
theorem bit_of {i t : Nat} (h : ¬ i &&& 2 ^ t = 0) : i.testBit t = true := by
  cases hb : i.testBit t with
  | true => rfl
  | false => exact absurd (and_pow.mpr hb) h
theorem zt_f {f : Nat → Int64} {t S : Nat} (h : S.testBit t = false) : zt f (t + 1) S = zt f t S := by
  conv => lhs; unfold zt
  rw [if_neg (by rw [h]; decide)]
theorem zt_t {f : Nat → Int64} {t S : Nat} (h : S.testBit t = true) : zt f (t + 1) S = zt f t S + zt f t (S ^^^ 2 ^ t) := by
  conv => lhs; unfold zt
  rw [if_pos h]
theorem zm_f {f : Nat → Nat} {t S : Nat} (h : S.testBit t = false) : zm f (t + 1) S = zm f t S := by
  conv => lhs; unfold zm
  rw [if_neg (by rw [h]; decide)]
theorem zm_t {f : Nat → Nat} {t S : Nat} (h : S.testBit t = true) : zm f (t + 1) S = min (zm f t S) (zm f t (S ^^^ 2 ^ t)) := by
  conv => lhs; unfold zm
  rw [if_pos h]
theorem zt_congr {f g : Nat → Int64} {N : Nat} (h : ∀ S, S < N → f S = g S) : ∀ t S, S < N → zt f t S = zt g t S
  | 0, S, hS => h S hS
  | t + 1, S, hS => by
    cases hb : S.testBit t with
    | false => rw [zt_f hb, zt_f hb, zt_congr h t S hS]
    | true =>
      have := xor_lt hb
      rw [zt_t hb, zt_t hb, zt_congr h t S hS, zt_congr h t _ (by omega)]
theorem zm_congr {f g : Nat → Nat} {N : Nat} (h : ∀ S, S < N → f S = g S) : ∀ t S, S < N → zm f t S = zm g t S
  | 0, S, hS => h S hS
  | t + 1, S, hS => by
    cases hb : S.testBit t with
    | false => rw [zm_f hb, zm_f hb, zm_congr h t S hS]
    | true =>
      have := xor_lt hb
      rw [zm_t hb, zm_t hb, zm_congr h t S hS, zm_congr h t _ (by omega)]
theorem zm_le {f : Nat → Nat} {B : Nat} (h : ∀ S, f S ≤ B) : ∀ t S, zm f t S ≤ B
  | 0, S => h S
  | t + 1, S => by
    unfold zm
    split
    · exact Nat.le_trans (Nat.min_le_left _ _) (zm_le h t S)
    · exact zm_le h t S
section ZT
variable {N t i : Nat}
/-- one step within a pass of the counting table -/
theorem ztn_t {f v : Nat → Int64} (hi : i < N) (h1 : ∀ S, S < i → v S = zt f (t + 1) S) (h2 : ∀ S, i ≤ S → S < N → v S = zt f t S) (hb : i.testBit t = true) : (∀ S, S < i + 1 → va_up v i (v i + v (i ^^^ 2 ^ t)) S = zt f (t + 1) S) ∧ ∀ S, i + 1 ≤ S → S < N → va_up v i (v i + v (i ^^^ 2 ^ t)) S = zt f t S := by
  refine ⟨fun S hS => ?_, fun S h3 h4 => by rw [upn (by omega)]; exact h2 S (by omega) h4⟩
  by_cases e : S = i
  · subst e
    rw [ups, h2 S (Nat.le_refl _) hi, h1 _ (xor_lt hb), zt_t hb, zt_f (xor_bit hb)]
  · rw [upn e]; exact h1 S (by omega)
theorem ztn_f {f v : Nat → Int64} (hi : i < N) (h1 : ∀ S, S < i → v S = zt f (t + 1) S) (h2 : ∀ S, i ≤ S → S < N → v S = zt f t S) (hb : i.testBit t = false) : (∀ S, S < i + 1 → v S = zt f (t + 1) S) ∧ ∀ S, i + 1 ≤ S → S < N → v S = zt f t S := by
  refine ⟨fun S hS => ?_, fun S h3 h4 => h2 S (by omega) h4⟩
  by_cases e : S = i
  · subst e
    rw [h2 S (Nat.le_refl _) hi, zt_f hb]
  · exact h1 S (by omega)
theorem zmn_t {f v : Nat → Nat} (hi : i < N) (h1 : ∀ S, S < i → v S = zm f (t + 1) S) (h2 : ∀ S, i ≤ S → S < N → v S = zm f t S) (hb : i.testBit t = true) : (∀ S, S < i + 1 → va_up v i (min (v i) (v (i ^^^ 2 ^ t))) S = zm f (t + 1) S) ∧ ∀ S, i + 1 ≤ S → S < N → va_up v i (min (v i) (v (i ^^^ 2 ^ t))) S = zm f t S := by
  refine ⟨fun S hS => ?_, fun S h3 h4 => by rw [upn (by omega)]; exact h2 S (by omega) h4⟩
  by_cases e : S = i
  · subst e
    rw [ups, h2 S (Nat.le_refl _) hi, h1 _ (xor_lt hb), zm_t hb, zm_f (xor_bit hb)]
  · rw [upn e]; exact h1 S (by omega)
theorem zmn_f {f v : Nat → Nat} (hi : i < N) (h1 : ∀ S, S < i → v S = zm f (t + 1) S) (h2 : ∀ S, i ≤ S → S < N → v S = zm f t S) (hb : i.testBit t = false) : (∀ S, S < i + 1 → v S = zm f (t + 1) S) ∧ ∀ S, i + 1 ≤ S → S < N → v S = zm f t S := by
  refine ⟨fun S hS => ?_, fun S h3 h4 => h2 S (by omega) h4⟩
  by_cases e : S = i
  · subst e
    rw [h2 S (Nat.le_refl _) hi, zm_f hb]
  · exact h1 S (by omega)
end ZT
def jsF (w : Nat) (co : Nat → Nat → Nat) (cw : Nat → Int64) (ci z q : Nat) : Int64 := if co ci q < 1000000 then cw (apF w q z) else 0
def cwT (w : Nat) (op mu ba en : Nat → Nat) (pr : Nat → Option Nat) (z : Nat) : Nat → Nat → Int64
  | 0, _ => 1
  | c + 1, S => zt (jsF w (fcC w op mu ba en pr) (cwT w op mu ba en pr z c) c z) (w - 1) S
def rvS (w : Nat) (op mu ba en : Nat → Nat) (pr : Nat → Option Nat) (z c : Nat) : Int64 := cwT w op mu ba en pr z c (2 ^ (w - 1) - 1)
def rcN (w : Nat) (op mu ba en : Nat → Nat) (pr : Nat → Option Nat) (z c : Nat) : Nat := sumN (fun q => if 0 < rvS w op mu ba en pr z (q + 1) then 1 else 0) c
def pjF (w : Nat) (co : Nat → Nat → Nat) (pw : Nat → Nat) (ci z q : Nat) : Nat := min 1000000 (co ci q + pw (apF w q z))
def pwT (w n : Nat) (op mu ba en : Nat → Nat) (pr : Nat → Option Nat) (z : Nat) : Nat → Nat → Nat
  | 0, _ => 0
  | d + 1, S => zm (pjF w (fcC w op mu ba en pr) (pwT w n op mu ba en pr z d) (n - 1 - d) z) (w - 1) S
def pjT (w n : Nat) (op mu ba en : Nat → Nat) (pr : Nat → Option Nat) (z c q : Nat) : Nat := pjF w (fcC w op mu ba en pr) (pwT w n op mu ba en pr z (n - 1 - c)) c z q
def chG (f : Nat → Nat) (al : Nat) : Nat → Nat × Nat
  | 0 => (0, 1000000)
  | i + 1 => if ndf i al = 0 ∧ f i < (chG f al i).2 then (i, f i) else chG f al i
theorem chG_t {f : Nat → Nat} {al i : Nat} (h1 : ndf i al = 0) (h2 : f i < (chG f al i).2) : chG f al (i + 1) = (i, f i) := by
  conv => lhs; unfold chG
  rw [if_pos ⟨h1, h2⟩]
theorem chG_f1 {f : Nat → Nat} {al i : Nat} (h1 : ¬ ndf i al = 0) : chG f al (i + 1) = chG f al i := by
  conv => lhs; unfold chG
  rw [if_neg (fun q => h1 q.1)]
theorem chG_f2 {f : Nat → Nat} {al i : Nat} (h2 : (chG f al i).2 ≤ f i) : chG f al (i + 1) = chG f al i := by
  conv => lhs; unfold chG
  rw [if_neg (fun q => by omega)]
theorem chG_le {f : Nat → Nat} {al : Nat} : ∀ i, (chG f al i).2 ≤ 1000000 ∧ (chG f al i).1 ≤ i
  | 0 => ⟨Nat.le_refl _, Nat.le_refl _⟩
  | i + 1 => by
    have := chG_le (f := f) (al := al) i
    unfold chG
    split
    · next h => exact ⟨by have := h.2; show f i ≤ 1000000; omega, by show i ≤ i + 1; omega⟩
    · exact ⟨this.1, by omega⟩
theorem chG_lt {f : Nat → Nat} {al : Nat} : ∀ i, 0 < i → (chG f al i).1 < i
  | 0, h => absurd h (Nat.lt_irrefl _)
  | i + 1, _ => by
    have := (chG_le (f := f) (al := al) i).2
    unfold chG
    split
    · show i < i + 1; omega
    · omega
theorem chG_congr {f g : Nat → Nat} {al : Nat} : ∀ N, (∀ i, i < N → f i = g i) → chG f al N = chG g al N
  | 0, _ => rfl
  | N + 1, h => by
    unfold chG
    rw [chG_congr N (fun i hi => h i (by omega)), h N (by omega)]
def alS (w n : Nat) (op mu ba en : Nat → Nat) (pr : Nat → Option Nat) (z : Nat) : Nat → Nat
  | 0 => 2 ^ (w - 1) - 1
  | c + 1 => apF w (chG (pjT w n op mu ba en pr z c) (alS w n op mu ba en pr z c) (2 ^ (w - 1))).1 z
def chS (w n : Nat) (op mu ba en : Nat → Nat) (pr : Nat → Option Nat) (z c : Nat) : Nat := (chG (pjT w n op mu ba en pr z c) (alS w n op mu ba en pr z c) (2 ^ (w - 1))).1
theorem alS_lt {w n : Nat} {op mu ba en : Nat → Nat} {pr : Nat → Option Nat} {z : Nat} (h : 2 ≤ w) : ∀ c, alS w n op mu ba en pr z c < 2 ^ (w - 1)
  | 0 => by
    have p0 : 0 < 2 ^ (w - 1) := Nat.pow_pos (by decide)
    show 2 ^ (w - 1) - 1 < _
    omega
  | c + 1 => apF_lt h
theorem chS_lt {w n : Nat} {op mu ba en : Nat → Nat} {pr : Nat → Option Nat} {z c : Nat} : chS w n op mu ba en pr z c < 2 ^ (w - 1) := chG_lt _ (Nat.pow_pos (by decide))
theorem pwT_le {w n : Nat} {op mu ba en : Nat → Nat} {pr : Nat → Option Nat} {z : Nat} : ∀ d S, pwT w n op mu ba en pr z d S ≤ 1000000
  | 0, _ => by show 0 ≤ 1000000; omega
  | d + 1, S => zm_le (fun q => Nat.min_le_left _ _) _ _
theorem lgc_t {x : Int64} (h : ¬ lg_cmp x 0 ≤ 0) : 0 < x := by
  by_cases h1 : 0 < x
  · exact h1
  · exfalso
    apply h
    unfold lg_cmp
    rw [if_neg h1]
    split <;> decide
theorem lgc_f {x : Int64} (h : lg_cmp x 0 ≤ 0) : ¬ 0 < x := by
  intro h1
  unfold lg_cmp at h
  rw [if_pos h1] at h
  exact absurd h (by decide)
theorem twCpS : Cond.static arraycopyName ∈ lw_tb := tb_in 456 (by decide +kernel)
theorem twCpN : Cond.native arraycopyName ∈ lw_tb := tb_in 457 (by decide +kernel)
theorem twCpI : Cond.initialized "java/lang/System" ∈ lw_tb := tb_in 53 (by decide +kernel)
section CPY
variable {p : Program} {l : Launch} {e : Env} {R : Room} {s : State} {m : MethodId} {args : Array Value} {below : List Frame} {meth : Method} {c : Code} {H : Heap} {locs : List Loc} {cells slots : Nat} {Q : State → Prop}
variable {cc : ByteArray} {nL index pc : Nat} {own : String} {ls : Array Slot} {rest : List Value}
variable {D : va_G} {K : Nat → ClassId} {A : Nat → Prop} {H0 : Heap} {ws ws' : va_W}
theorem ly_copyl {a0 ad n0 n1 N : Nat} {f g : Nat → Int64} (S : CallFix p m c cc nL s args lw_tb own) (hl : Cond.methodLink own index arraycopyName ∈ lw_tb) (hR : RO 0 R cells slots) (hsz : ls.size = nL) (hI : PI D K ws s H) (hD : va_D A ws) (hS : va_S A H0 H locs) (q0 q1 : Nat) (ha0 : ws[q0]? = some (a0, .inl (K 1, n0, .inr (.inl f)))) (ha1 : ws[q1]? = some (ad, .inl (K 1, n1, .inr (.inl g)))) (h0 : N ≤ n0) (h1 : N ≤ n1) (hN : N < 2 ^ 31) (hws : ws.set q1 (ad, .inl (K 1, n1, .inr (.inl (va_cpy f g 0 0 N)))) = ws') (hdg : decode cc pc = .ok (.invokestatic index, 3))
    (kk : ∀ (H1 : Heap) (locs1 : List Loc), PI D K ws' s H1 → va_S A H0 H1 locs1 → W p l e R s m args below meth c H1 locs1 cells slots Q (F0 m (pc + 3) ls [])) : W p l e R s m args below meth c H locs cells slots Q (F0 m pc ls [.int (nI N), .int (nI 0), .ref ad, .int (nI 0), .ref a0]) := by
  have h2 := hR.2.1
  have hc0 : (nI 0).toNatClampNeg = 0 := nI_clamp (by decide)
  refine va_copyl (rest := []) S.1 S.2.1 (by rw [S.2.2.1, hsz]) S.2.2.2.1 (S.2.2.2.2 _ hl) (S.2.2.2.2 _ twCpN) (S.2.2.2.2 _ twCpS) (S.2.2.2.2 _ twCpI) hI.2 hI.1 hD hS q0 q1 1 1 ha0 ha1 rfl rfl rfl (by decide) (by decide) (nI_pos hN) (by rw [hc0, nI_clamp hN]; omega) (by rw [hc0, nI_clamp hN]; omega) (fun i _ => rfl) hR.1 (Nat.le_trans (by decide) h2) hdg (fun H1 locs1 hP1 hD1 hS1 => ?_)
  rw [hc0, nI_clamp hN, hws] at hP1
  exact kk H1 locs1 ⟨hP1, hI.2⟩ hS1
theorem ly_copyi {a0 ad n0 n1 N : Nat} {f g : Nat → Int32} (S : CallFix p m c cc nL s args lw_tb own) (hl : Cond.methodLink own index arraycopyName ∈ lw_tb) (hR : RO 0 R cells slots) (hsz : ls.size = nL) (hI : PI D K ws s H) (hD : va_D A ws) (hS : va_S A H0 H locs) (q0 q1 : Nat) (ha0 : ws[q0]? = some (a0, .inl (K 0, n0, .inl f))) (ha1 : ws[q1]? = some (ad, .inl (K 0, n1, .inl g))) (h0 : N ≤ n0) (h1 : N ≤ n1) (hN : N < 2 ^ 31) (hws : ws.set q1 (ad, .inl (K 0, n1, .inl (va_cpy f g 0 0 N))) = ws') (hdg : decode cc pc = .ok (.invokestatic index, 3))
    (kk : ∀ (H1 : Heap) (locs1 : List Loc), PI D K ws' s H1 → va_S A H0 H1 locs1 → W p l e R s m args below meth c H1 locs1 cells slots Q (F0 m (pc + 3) ls [])) : W p l e R s m args below meth c H locs cells slots Q (F0 m pc ls [.int (nI N), .int (nI 0), .ref ad, .int (nI 0), .ref a0]) := by
  have h2 := hR.2.1
  have hc0 : (nI 0).toNatClampNeg = 0 := nI_clamp (by decide)
  refine va_copyi (rest := []) S.1 S.2.1 (by rw [S.2.2.1, hsz]) S.2.2.2.1 (S.2.2.2.2 _ hl) (S.2.2.2.2 _ twCpN) (S.2.2.2.2 _ twCpS) (S.2.2.2.2 _ twCpI) hI.2 hI.1 hD hS q0 q1 0 0 ha0 ha1 rfl rfl rfl (by decide) (by decide) (nI_pos hN) (by rw [hc0, nI_clamp hN]; omega) (by rw [hc0, nI_clamp hN]; omega) (fun i _ => rfl) hR.1 (Nat.le_trans (by decide) h2) hdg (fun H1 locs1 hP1 hD1 hS1 => ?_)
  rw [hc0, nI_clamp hN, hws] at hP1
  exact kk H1 locs1 ⟨hP1, hI.2⟩ hS1
end CPY
theorem cpy_nI {f g : Nat → Nat} {N : Nat} : va_cpy (fun j => nI (f j)) (fun j => nI (g j)) 0 0 N = fun j => nI (va_cpy f g 0 0 N j) := by
  funext j
  unfold va_cpy
  split <;> rfl
theorem cpy_lt {α : Type} {f g : Nat → α} {N j : Nat} (h : j < N) : va_cpy f g 0 0 N j = f j := by
  unfold va_cpy
  rw [if_pos ⟨Nat.zero_le _, by omega⟩]
  simp
theorem bl_s {α : Type} {f g : Nat → α} {k : Nat} (h : ∀ q, q < k → f q = g q) : ∀ q, q < k + 1 → va_up f k (g k) q = g q := by
  intro q hq
  unfold va_up
  split
  · next e => rw [e]
  · exact h q (by omega)
theorem pj_s {t : Nat → Nat → Nat} {ci i : Nat} {g : Nat → Nat} (h : ∀ q, q < i → t ci q = g q) : ∀ q, q < i + 1 → va_up t ci (va_up (t ci) i (g i)) ci q = g q := by
  rw [ups]
  exact bl_s h
theorem up_le {f : Nat → Nat} {k v B : Nat} (h : ∀ q, f q ≤ B) (hv : v ≤ B) : ∀ q, va_up f k v q ≤ B := by
  intro q
  unfold va_up
  split
  · exact hv
  · exact h q
theorem up_lt {f : Nat → Nat} {k v B : Nat} (h : ∀ q, f q < B) (hv : v < B) : ∀ q, va_up f k v q < B := by
  intro q
  unfold va_up
  split
  · exact hv
  · exact h q
theorem cpy_le {f g : Nat → Nat} {N B : Nat} (hf : ∀ q, f q ≤ B) (hg : ∀ q, g q ≤ B) : ∀ q, va_cpy f g 0 0 N q ≤ B := by
  intro q
  unfold va_cpy
  split
  · exact hf _
  · exact hg _
theorem ly_le {f : Nat → Nat} {k B : Nat} (h : ∀ q, f q ≤ B) : ∀ q, lyF f (fun _ => 0) k q ≤ B := by
  intro q
  unfold lyF
  split
  · exact Nat.zero_le _
  · exact h q
section RCN
variable {w : Nat} {op mu ba en : Nat → Nat} {pr : Nat → Option Nat} {z k : Nat}
theorem rcN_t (h : 0 < rvS w op mu ba en pr z (k + 1)) : rcN w op mu ba en pr z k + 1 = rcN w op mu ba en pr z (k + 1) := by
  unfold rcN
  conv => rhs; unfold sumN
  rw [if_pos h]
theorem rcN_f (h : ¬ 0 < rvS w op mu ba en pr z (k + 1)) : rcN w op mu ba en pr z k = rcN w op mu ba en pr z (k + 1) := by
  unfold rcN
  conv => rhs; unfold sumN
  rw [if_neg h]
  rfl
theorem rcN_le (k : Nat) : rcN w op mu ba en pr z k ≤ k := by
  have := sumN_le (f := fun q => if 0 < rvS w op mu ba en pr z (q + 1) then 1 else 0) (b := 1) (fun q => by split <;> omega) k
  unfold rcN
  omega
end RCN
