/-! pure words of a wall, and the reference's picture -/
def sumN (f : Nat → Nat) : Nat → Nat
  | 0 => 0
  | k + 1 => sumN f k + f k
def allN (f : Nat → Bool) : Nat → Bool
  | 0 => true
  | k + 1 => allN f k && f k
def anyN (f : Nat → Bool) : Nat → Bool
  | 0 => false
  | k + 1 => anyN f k || f k
def beg (o j x : Nat) : Bool := !o.testBit x && (x == 0 || o.testBit (x - 1) || j.testBit x)
def bdy (o j y : Nat) : Bool := o.testBit y || beg o j y
def nb (b : Nat → Bool) : Nat → Nat → Nat
  | 0, y => y
  | f + 1, y => if b y then y else nb b f (y + 1)
def lenF (w o j x : Nat) : Nat := nb (bdy o j) (w - (x + 1)) (x + 1) - x
def foF (o j : Nat) : Nat → Nat
  | 0 => 0
  | x + 1 => if beg o j (x + 1) then x + 1 else foF o j x
def wiT (o j x : Nat) : Bool := x == 0 || !j.testBit x || (!o.testBit x && !o.testBit (x - 1))
def pI (q : Option Nat) : Int32 := match q with
  | none => -9
  | some k => nI k
def pz (z : Int32) (pr : Nat → Option Nat) : Nat → Int32 := fun i => if i = 0 then z else pI (pr i)
def prc (pr : Nat → Option Nat) (L : Nat) : Bool := decide (L ≤ 6) && (pr L).isSome
def enOk (w o j e0 e1 : Nat) : Bool := (o.testBit 0 || e0.testBit (lenF w o j 0)) && (o.testBit (w - 1) || e1.testBit (lenF w o j (foF o j (w - 1))))
def bl (op : Nat → Nat) (ci : Nat) : Nat := if ci = 0 then 0 else op (ci - 1)
def brk (pr : Nat → Option Nat) (b x L r : Nat) : Bool := if r = 3 then !prc pr L else if r = 5 then b.testBit x || b.testBit (x + L - 1) else decide (4 < L) && !anyN (fun k => b.testBit (x + k)) L
def spc (pr : Nat → Option Nat) (w o b j r x : Nat) : Bool := beg o j x && brk pr b x (lenF w o j x) r
def ndf (a b : Nat) : Nat := a ^^^ (a &&& b)
def ruF (pr : Nat → Option Nat) (w o b mu ba e0 e1 j : Nat) : Nat :=
  if !allN (wiT o j) w then 1 else if ndf mu j ≠ 0 ∨ ba &&& j ≠ 0 then 2 else if anyN (spc pr w o b j 3) w then 3 else if !enOk w o j e0 e1 then 4 else if anyN (spc pr w o b j 5) w then 5 else if anyN (spc pr w o b j 6) w then 6 else 0
def arG (j : Nat) : Nat → Nat
  | 0 => j
  | k + 1 => if k = 0 then j else arG j k ||| (j <<< k ||| j >>> k)
def prN (pr : Nat → Option Nat) (L : Nat) : Nat := if prc pr L then (pr L).getD 0 else 100
def coT (pr : Nat → Option Nat) (w o j x : Nat) : Nat := if beg o j x then prN pr (lenF w o j x) else 0
def coF (pr : Nat → Option Nat) (w o j : Nat) : Nat := sumN (coT pr w o j) w
def pcT (w o j L x : Nat) : Nat := if beg o j x && (lenF w o j x == L) then 1 else 0
def pcF (w o j L : Nat) : Nat := sumN (pcT w o j L) w
def spT (o x : Nat) : Nat := if !o.testBit x && (x == 0 || o.testBit (x - 1)) then 1 else 0
abbrev MSc : Type := (Nat → Nat) × (Nat → Nat) × (Nat → Nat) × (Nat → Int64) × (Nat → Nat) × (Nat → Bool)
def mW (K : Nat → ClassId) (a : Nat → Nat) (w n lap : Nat) (op mu ba la en : Nat → Nat) (pr : Nat → Option Nat) (sc : MSc) : va_W :=
  [(a 0, .inr (8, [.int (nI w), .int (nI n), .ref (a 1), .ref (a 2), .ref (a 3), .ref (a 4), .ref (a 5), .ref (a 6), .int (nI lap), .ref (a 7), .ref (a 8), .ref (a 9), .ref (a 10), .ref (a 11), .ref (a 12)])),
   (a 1, .inl (K 0, 8, .inl (fun i => nI (op i)))), (a 2, .inl (K 0, 8, .inl (fun i => nI (mu i)))), (a 3, .inl (K 0, 8, .inl (fun i => nI (ba i)))), (a 4, .inl (K 0, 8, .inl (fun i => nI (la i)))),
   (a 5, .inl (K 0, 7, .inl (pz 0 pr))), (a 6, .inl (K 0, 4, .inl (fun i => nI (en i)))),
   (a 7, .inl (K 0, 8, .inl (fun i => nI (sc.1 i)))), (a 8, .inl (K 0, 4096, .inl (fun i => nI (sc.2.1 i)))), (a 9, .inl (K 0, 4096, .inl (fun i => nI (sc.2.2.1 i)))),
   (a 10, .inl (K 1, 4096, .inr (.inl sc.2.2.2.1))), (a 11, .inl (K 0, 8, .inl (fun i => nI (sc.2.2.2.2.1 i)))), (a 12, .inl (K 2, 4096, .inl (fun i => bI (sc.2.2.2.2.2 i))))]
/-- what stays true of a wall's data -/
def GOK (w n lap : Nat) (op mu ba la en : Nat → Nat) (pr : Nat → Option Nat) : Prop :=
  2 ≤ w ∧ w ≤ 10 ∧ n ≤ 8 ∧ 1 ≤ lap ∧ lap ≤ 3 ∧ (∀ i, op i < 1024) ∧ (∀ i, mu i < 1024) ∧ (∀ i, ba i < 1024) ∧ (∀ i, la i < 1024) ∧ (∀ i, en i < 128) ∧ (∀ i q, pr i = some q → q ≤ 99) ∧
  (∀ i, i < n → op i < 2 ^ w) ∧ (∀ i, i < n → mu i < 2 ^ w) ∧ (∀ i, i < n → ba i < 2 ^ w) ∧ (∀ i, i < n → la i < 2 ^ w) ∧ (∀ i, mu i % 2 = 0) ∧ (∀ i, ba i % 2 = 0) ∧ (∀ i, la i % 2 = 0) ∧ (∀ i, en i % 2 = 0)
theorem nb_ge (b : Nat → Bool) : ∀ (f y : Nat), y ≤ nb b f y
  | 0, y => Nat.le_refl y
  | f + 1, y => by
    unfold nb
    split
    · exact Nat.le_refl y
    · exact Nat.le_of_succ_le (nb_ge b f (y + 1))
theorem nb_le (b : Nat → Bool) : ∀ (f y : Nat), nb b f y ≤ y + f
  | 0, y => Nat.le_refl y
  | f + 1, y => by
    unfold nb
    split
    · omega
    · have := nb_le b f (y + 1); omega
theorem nb_t {b : Nat → Bool} {f y : Nat} (h : b y = true) : nb b f y = y := by
  cases f with
  | zero => rfl
  | succ f => unfold nb; rw [if_pos h]
theorem nb_f {b : Nat → Bool} {f y : Nat} (h : b y = false) : nb b (f + 1) y = nb b f (y + 1) := by
  conv => lhs; unfold nb
  rw [if_neg (by rw [h]; exact Bool.false_ne_true)]
theorem lenF_pos {w o j x : Nat} : 1 ≤ lenF w o j x := by
  unfold lenF
  have := nb_ge (bdy o j) (w - (x + 1)) (x + 1)
  omega
theorem lenF_le {w o j x : Nat} (h : x < w) : x + lenF w o j x ≤ w := by
  unfold lenF
  have h1 := nb_ge (bdy o j) (w - (x + 1)) (x + 1)
  have h2 := nb_le (bdy o j) (w - (x + 1)) (x + 1)
  omega
theorem foF_le (o j : Nat) : ∀ x, foF o j x ≤ x
  | 0 => Nat.le_refl 0
  | x + 1 => by
    unfold foF
    split
    · exact Nat.le_refl _
    · exact Nat.le_succ_of_le (foF_le o j x)
theorem arG_lt {j : Nat} (h : j < 1024) : ∀ k, k ≤ 3 → arG j k < 4096
  | 0, _ => by unfold arG; omega
  | k + 1, hk => by
    unfold arG
    split
    · omega
    · refine Nat.or_lt_two_pow (n := 12) (arG_lt h k (by omega)) (Nat.or_lt_two_pow (n := 12) ?_ ?_)
      · rw [Nat.shiftLeft_eq]
        have : k ≤ 2 := by omega
        have : 2 ^ k ≤ 2 ^ 2 := Nat.pow_le_pow_right (by omega) this
        have : j * 2 ^ k ≤ 1023 * 4 := Nat.mul_le_mul (by omega) this
        omega
      · exact Nat.lt_of_le_of_lt (Nat.shiftRight_le j k) (by omega)
theorem sumN_le {f : Nat → Nat} {b : Nat} (h : ∀ k, f k ≤ b) : ∀ n, sumN f n ≤ n * b
  | 0 => by unfold sumN; omega
  | n + 1 => by
    unfold sumN
    have := sumN_le h n
    have := h n
    rw [Nat.succ_mul]
    omega
theorem prN_le {pr : Nat → Option Nat} (h : ∀ i q, pr i = some q → q ≤ 99) (L : Nat) : prN pr L ≤ 100 := by
  unfold prN
  split
  · cases hq : pr L with
    | none => simp
    | some q => have := h L q hq; simp; omega
  · omega
theorem coT_le {pr : Nat → Option Nat} (h : ∀ i q, pr i = some q → q ≤ 99) (w o j x : Nat) : coT pr w o j x ≤ 100 := by
  unfold coT
  split
  · exact prN_le h _
  · omega
theorem coF_le {pr : Nat → Option Nat} (h : ∀ i q, pr i = some q → q ≤ 99) {w : Nat} (hw : w ≤ 10) (o j : Nat) : coF pr w o j ≤ 1000 := by
  have := sumN_le (coT_le h w o j) w
  unfold coF
  omega
theorem nJ_in (t n : Nat) : nI t + Int32.ofInt (n : Int) = nI (t + n) := by
  rw [← nI_add]; rfl
theorem nJ_im {t n : Nat} (h : n ≤ t) : nI t + Int32.ofInt (-(n : Int)) = nI (t - n) := by
  rw [← pk_sub h, Int32.sub_eq_add_neg, Int32.ofInt_neg]; rfl
theorem nI_andn {x z : Nat} (hx : x < 2 ^ 31) (hz : z < 2 ^ 31) : nI x &&& (nI z ^^^ (-1)) = nI (ndf x z) := by
  have h0 : x &&& z < 2 ^ 31 := Nat.lt_of_le_of_lt Nat.and_le_left hx
  rw [ndf, ← nI_xor hx h0, ← nI_and hx hz]
  apply Int32.toBitVec_inj.mp
  simp only [Int32.toBitVec_and, Int32.toBitVec_xor]
  apply BitVec.eq_of_getLsbD_eq
  intro i hi
  have : (-1 : Int32).toBitVec = BitVec.allOnes 32 := by decide
  simp only [this, BitVec.getLsbD_and, BitVec.getLsbD_xor, BitVec.getLsbD_allOnes, hi, decide_true]
  cases (nI x).toBitVec.getLsbD i <;> cases (nI z).toBitVec.getLsbD i <;> rfl
theorem nI_andn2 {x z : Nat} (hx : x < 2 ^ 31) (hz : z < 2 ^ 31) (h : ¬ nI x &&& (nI z ^^^ (-1)) = 0) : ndf x z ≠ 0 := fun q => h (by rw [nI_andn hx hz, q]; rfl)
theorem sw_cases (x : Int32) (N : Nat) : (x.toInt < 0 ∨ ((N : Int) - 1) < x.toInt) ∨ ∃ k : Nat, k < N ∧ x = nI k := by
  by_cases h0 : x.toInt < 0
  · exact Or.inl (Or.inl h0)
  · by_cases h1 : ((N : Int) - 1) < x.toInt
    · exact Or.inl (Or.inr h1)
    · refine Or.inr ⟨x.toInt.toNat, by omega, ?_⟩
      have h2 : x.toInt.toNat < 2 ^ 31 := by have := x.toInt_lt; omega
      apply Int32.toInt_inj.mp
      rw [nI_toInt h2]
      omega
section KZ
variable {p : Program} {l : Launch} {e : Env} {R : Room} {s : State} {m : MethodId} {args : Array Value} {below : List Frame} {meth : Method} {c : Code} {cells slots : Nat}
variable {cc : ByteArray} {nL pc : Nat} {own : String} {ls : Array Slot}
theorem rt_z1 {z : Bool} (S : CallFix p m c cc nL s args lw_tb own) (hr : meth.sig.returnType = some .boolean) (hlk : meth.locks = false) (h : z = true) (hdg : decode cc pc = .ok (.ireturn, 1)) :
    W p l e R s m args below meth c s.heap [] cells slots (MQ below (QcRead (bI z)) args s cells slots (fun _ => False)) (F0 m pc ls [.int (nI 1)]) := rt_z S hr hlk (by rw [h]; rfl) hdg
theorem rt_z0 {z : Bool} (S : CallFix p m c cc nL s args lw_tb own) (hr : meth.sig.returnType = some .boolean) (hlk : meth.locks = false) (h : z = false) (hdg : decode cc pc = .ok (.ireturn, 1)) :
    W p l e R s m args below meth c s.heap [] cells slots (MQ below (QcRead (bI z)) args s cells slots (fun _ => False)) (F0 m pc ls [.int (nI 0)]) := rt_z S hr hlk (by rw [h]; rfl) hdg
end KZ
def wiI (v z0 z1 : Int32) : Bool := decide (z0 ≤ v) && decide (v ≤ z1)
theorem wiI_l {v z0 z1 : Int32} (h : v < z0) : wiI v z0 z1 = false := by
  have : ¬ z0 ≤ v := Int32.not_le.mpr h
  simp [wiI, this]
theorem wiI_r {v z0 z1 : Int32} (h : z1 < v) : wiI v z0 z1 = false := by
  have : ¬ v ≤ z1 := Int32.not_le.mpr h
  simp [wiI, this]
theorem wiI_t {v z0 z1 : Int32} (h1 : ¬ v < z0) (h2 : ¬ z1 < v) : wiI v z0 z1 = true := by
  have a1 : z0 ≤ v := Int32.not_lt.mp h1
  have a2 : v ≤ z1 := Int32.not_lt.mp h2
  simp [wiI, a1, a2]
theorem lenF_e {w o j x k : Nat} (h3 : nb (bdy o j) (w - (x + k)) (x + k) = nb (bdy o j) (w - (x + 1)) (x + 1)) (h : x + k = w ∨ bdy o j (x + k) = true) : lenF w o j x = k := by
  unfold lenF
  rw [← h3]
  rcases h with h | h
  · rw [h, Nat.sub_self]
    show w - x = k
    omega
  · rw [nb_t h]
    omega
theorem lenF_s {w o j x k : Nat} (h : x + k < w) (hb : bdy o j (x + k) = false) (h3 : nb (bdy o j) (w - (x + k)) (x + k) = nb (bdy o j) (w - (x + 1)) (x + 1)) : nb (bdy o j) (w - (x + (k + 1))) (x + (k + 1)) = nb (bdy o j) (w - (x + 1)) (x + 1) := by
  rw [← h3, show w - (x + k) = (w - (x + (k + 1))) + 1 by omega, nb_f hb]
  rfl
theorem beg_f0 {o j k : Nat} (ho : o.testBit k = false) (h : beg o j k = false) : 1 ≤ k ∧ o.testBit (k - 1) = false := by
  unfold beg at h
  simp only [ho, Bool.not_false, Bool.true_and, Bool.or_eq_false_iff, beq_eq_false_iff_ne] at h
  exact ⟨by omega, h.1.2⟩
theorem foF_t {o j k : Nat} (h : beg o j k = true) : foF o j k = k := by
  cases k with
  | zero => rfl
  | succ k => unfold foF; rw [if_pos h]
theorem foF_f {o j k : Nat} (hk : 1 ≤ k) (h : beg o j k = false) : foF o j k = foF o j (k - 1) := by
  cases k with
  | zero => omega
  | succ k =>
    conv => lhs; unfold foF
    rw [if_neg (by rw [h]; exact Bool.false_ne_true)]
    rfl
theorem pI_ne {q : Nat} (h : q ≤ 99) : ¬ nI q = -9 := by
  intro e
  have := congrArg Int32.toInt e
  rw [nI_toInt (by omega)] at this
  have h2 : (-9 : Int32).toInt = -9 := by decide
  omega
theorem pz_n {z : Int32} {pr : Nat → Option Nat} {L : Nat} (gpr : ∀ i q, pr i = some q → q ≤ 99) (hL : 1 ≤ L) (h : pz z pr L = -9) : (pr L).isSome = false := by
  unfold pz at h
  rw [if_neg (by omega)] at h
  cases hq : pr L with
  | none => rfl
  | some q => rw [hq] at h; exact absurd h (pI_ne (gpr L q hq))
theorem pz_s {z : Int32} {pr : Nat → Option Nat} {L : Nat} (hL : 1 ≤ L) (h : ¬ pz z pr L = -9) : (pr L).isSome = true := by
  unfold pz at h
  rw [if_neg (by omega)] at h
  cases hq : pr L with
  | none => rw [hq] at h; exact absurd rfl h
  | some q => rfl
theorem pz_v {z : Int32} {pr : Nat → Option Nat} {L : Nat} (hL : 1 ≤ L) (h : prc pr L = true) : pz z pr L = nI (prN pr L) := by
  unfold pz prN
  rw [if_neg (by omega), h, if_pos rfl]
  unfold prc at h
  cases hq : pr L with
  | none => rw [hq] at h; simp at h
  | some q => rfl
theorem ndf_lt {a b : Nat} (h : a < 2 ^ 31) : ndf a b < 2 ^ 31 := Nat.xor_lt_two_pow h (Nat.lt_of_le_of_lt Nat.and_le_left h)
theorem bl_lt {op : Nat → Nat} (h : ∀ i, op i < 1024) (ci : Nat) : bl op ci < 1024 := by
  unfold bl
  split
  · omega
  · exact h _
def popG : Nat → Nat → Nat
  | 0, _ => 0
  | f + 1, v => v % 2 + popG f (v / 2)
theorem popG_0 : ∀ f, popG f 0 = 0
  | 0 => rfl
  | f + 1 => by unfold popG; rw [Nat.zero_div, popG_0 f]
theorem popG_le : ∀ f v, popG f v ≤ f
  | 0, _ => Nat.le_refl 0
  | f + 1, v => by unfold popG; have := popG_le f (v / 2); have := Nat.mod_lt v (show 0 < 2 by decide); omega
theorem ruF_le {pr : Nat → Option Nat} {w o b mu ba e0 e1 j : Nat} : ruF pr w o b mu ba e0 e1 j ≤ 6 := by
  unfold ruF
  repeat (first | omega | split)
theorem pcT_le (w o j L x : Nat) : pcT w o j L x ≤ 1 := by
  unfold pcT
  split <;> omega
theorem pcF_le {w : Nat} (hw : w ≤ 10) (o j L : Nat) : pcF w o j L ≤ 10 := by
  have := sumN_le (pcT_le w o j L) w
  unfold pcF
  omega
theorem popG_g {g v : Nat} (hv : 0 < v) (h : v < 2 ^ g) : 1 ≤ g := by
  rcases Nat.eq_zero_or_pos g with q | q
  · rw [q] at h
    omega
  · exact q
theorem popG_s {g v k T : Nat} (hg : 1 ≤ g) (h : k + popG g v = T) : k + v % 2 + popG (g - 1) (v / 2) = T := by
  rw [← h]
  cases g with
  | zero => omega
  | succ g =>
    show k + v % 2 + popG g (v / 2) = k + (v % 2 + popG g (v / 2))
    omega
theorem popG_h {g v : Nat} (hg : 1 ≤ g) (h : v < 2 ^ g) : v / 2 < 2 ^ (g - 1) := by
  cases g with
  | zero => omega
  | succ g => rw [Nat.pow_succ] at h; show v / 2 < 2 ^ g; omega
theorem beg_0 {o j x : Nat} (h1 : o.testBit x = false) (h2 : x = 0) : beg o j x = true := by
  unfold beg
  rw [h1, h2]
  rfl
theorem spT_0 {o x : Nat} (h1 : o.testBit x = false) (h2 : x = 0) : spT o x = 1 := by
  unfold spT
  rw [h1, h2]
  rfl
theorem prc_le {pr : Nat → Option Nat} {L : Nat} (h : prc pr L = true) : L ≤ 6 := by
  unfold prc at h
  simp only [Bool.and_eq_true, decide_eq_true_eq] at h
  exact h.1
