/-! the picture of the class: its objects and arrays at the addresses b 0 .. b 43 -/
theorem twMinS : Cond.static Lib.Math.min.name ∈ lw_tb := tb_in 396 (by decide +kernel)
theorem twMinI : Cond.initialized "java/lang/Math" ∈ lw_tb := tb_in 52 (by decide +kernel)
theorem twMinC : Cond.code Lib.Math.min.name Lib.Math.min.code 2 (some .int) ∈ lw_tb := tb_in 397 (by decide +kernel)
def gz (f : Nat → Nat) (i : Nat) : Nat := if i < 8 then f i else 0
def bwc (ci : Nat) : Nat := if ci = 0 then 8 else ci - 1
def crE (op mu ba la : Nat → Nat) (i : Nat) : va_E := .inr (2, [.int (nI (gz op i)), .int (nI (gz mu i)), .int (nI (gz ba i)), .int (nI (gz la i))])
def rowE (K : Nat → ClassId) (co : Nat → Nat → Nat) (i : Nat) : va_E := .inl (K 0, 512, .inl (fun j => nI (co i j)))
def enE (K : Nat → ClassId) (en : Nat → Nat) (i : Nat) : va_E := .inl (K 0, 2, .inl (fun j => nI (if j < 2 then en (2 * i + j) else 0)))
def cW (K : Nat → ClassId) (b : Nat → Nat) (w n lap : Nat) (op mu ba la en : Nat → Nat) (pr : Nat → Option Nat) (fr : Bool) (co : Nat → Nat → Nat) (cw cj : Nat → Int64) (cl : Nat) (rv : Int64) (rc : Nat) (pj : Nat → Nat → Nat) (pw ch : Nat → Nat) (pl lc : Nat) (tl : Nat → Nat) : va_W :=
  [(b 0, .inr (7, [.ref (b 1), .ref (b 8), .ref (b 10), .ref (b 13), .ref (b 17)])),
   (b 1, .inr (6, [.ref (b 2), .ref (b 3), .ref (b 27), .int (nI w), .int (nI n), .int (nI lap)])),
   (b 2, .inr (0, [.ref (b 4), .ref (b 5)])),
   (b 3, .inl (K 3, 8, .inr (.inr (.inr (.inr (fun i => some (b (19 + i)))))))),
   (b 4, .inl (K 0, 7, .inl (pz (-9) pr))),
   (b 5, .inl (K 4, 2, .inr (.inr (.inr (.inr (fun i => some (b (6 + i)))))))),
   (b 6, enE K en 0),
   (b 7, enE K en 1),
   (b 8, .inr (4, [.ref (b 1), .ref (b 9), .int (bI fr)])),
   (b 9, .inl (K 4, 8, .inr (.inr (.inr (.inr (fun i => some (b (28 + i)))))))),
   (b 10, .inr (1, [.ref (b 1), .ref (b 8), .ref (b 11), .ref (b 12), .int (nI cl), .long rv, .int (nI rc)])),
   (b 11, .inl (K 1, 512, .inr (.inl cw))),
   (b 12, .inl (K 1, 512, .inr (.inl cj))),
   (b 13, .inr (3, [.ref (b 1), .ref (b 8), .ref (b 14), .ref (b 15), .ref (b 16), .int (nI pl), .int (nI lc)])),
   (b 14, .inl (K 4, 8, .inr (.inr (.inr (.inr (fun i => some (b (36 + i)))))))),
   (b 15, .inl (K 0, 512, .inl (fun j => nI (pw j)))),
   (b 16, .inl (K 0, 8, .inl (fun j => nI (ch j)))),
   (b 17, .inr (5, [.ref (b 18)])),
   (b 18, .inl (K 0, 11, .inl (fun j => nI (tl j)))),
   (b 19, crE op mu ba la 0),
   (b 20, crE op mu ba la 1),
   (b 21, crE op mu ba la 2),
   (b 22, crE op mu ba la 3),
   (b 23, crE op mu ba la 4),
   (b 24, crE op mu ba la 5),
   (b 25, crE op mu ba la 6),
   (b 26, crE op mu ba la 7),
   (b 27, crE op mu ba la 8),
   (b 28, rowE K co 0),
   (b 29, rowE K co 1),
   (b 30, rowE K co 2),
   (b 31, rowE K co 3),
   (b 32, rowE K co 4),
   (b 33, rowE K co 5),
   (b 34, rowE K co 6),
   (b 35, rowE K co 7),
   (b 36, rowE K pj 0),
   (b 37, rowE K pj 1),
   (b 38, rowE K pj 2),
   (b 39, rowE K pj 3),
   (b 40, rowE K pj 4),
   (b 41, rowE K pj 5),
   (b 42, rowE K pj 6),
   (b 43, rowE K pj 7)]
theorem inX0 : ∀ w ∈ u_ws RX0 TX0 2, w ∈ lw_tb := by decide +kernel
theorem inX1 : ∀ w ∈ u_ws RX1 TX1 7, w ∈ lw_tb := by decide +kernel
theorem inX2 : ∀ w ∈ u_ws RX2 TX2 4, w ∈ lw_tb := by decide +kernel
theorem inX3 : ∀ w ∈ u_ws RX3 TX3 7, w ∈ lw_tb := by decide +kernel
theorem inX4 : ∀ w ∈ u_ws RX4 TX4 3, w ∈ lw_tb := by decide +kernel
theorem inX5 : ∀ w ∈ u_ws RX5 TX5 1, w ∈ lw_tb := by decide +kernel
theorem inX6 : ∀ w ∈ u_ws RX6 TX6 6, w ∈ lw_tb := by decide +kernel
theorem inX7 : ∀ w ∈ u_ws RX7 TX7 5, w ∈ lw_tb := by decide +kernel
section CW
variable {p : Program} {l : Launch} {e : Env} {R : Room} {s : State} {m : MethodId} {args : Array Value} {below : List Frame} {meth : Method} {c : Code} {H : Heap} {locs : List Loc} {cells slots : Nat} {Q : State → Prop}
variable {cc : ByteArray} {nL index pc : Nat} {own : String} {ls : Array Slot} {rest : List Value}
variable {D : va_G} {K : Nat → ClassId} {A : Nat → Prop} {H0 : Heap} {ws : va_W}
theorem g0 {ad : Nat} {fs : List Value} {v : Value} (S : CallFix p m c cc nL s args lw_tb own) (hI : PI D K ws s H) (q0 : Nat) (he : ws[q0]? = some (ad, .inr (0, fs))) (k : Nat) (hk : k < 2) (hl : Cond.fieldLink own index (TX0 k).1 (TX0 k).2.1 (TX0 k).2.2.1 ∈ lw_tb) (hv : fs[k]? = some v) (hdg : decode cc pc = .ok (.getfield index, 3))
    (kk : W p l e R s m args below meth c H locs cells slots Q (F0 m (pc + 3) ls (v :: rest))) : W p l e R s m args below meth c H locs cells slots Q (F0 m pc ls (.ref ad :: rest)) :=
  va_get (C := RX0) (T := TX0) (N := 2) S.1 S.2.1 S.2.2.2.2 inX0 S.2.2.2.1 hI.2 hI.1 q0 he rfl k hk (S.2.2.2.2 _ hl) (fun _ h9 => h9) hv hdg kk
theorem p0 {ws' : va_W} {ad : Nat} {fs : List Value} {v : Value} {ty : FieldType} (S : CallFix p m c cc nL s args lw_tb own) (hI : PI D K ws s H) (hD : va_D A ws) (hS : va_S A H0 H locs) (q0 : Nat) (he : ws[q0]? = some (ad, .inr (0, fs))) (k : Nat) (hk : k < 2) (hl : Cond.fieldLink own index (TX0 k).1 (TX0 k).2.1 (TX0 k).2.2.1 ∈ lw_tb) (hfin : (TX0 k).2.2.2 = false) (hd : parseFieldDescriptor (TX0 k).2.2.1 = some ty) (hn : narrow ty v = v) (hfit : fits ty v = true) (hlen : k < fs.length) (hws : ws.set q0 (ad, .inr (0, fs.set k v)) = ws') (hdg : decode cc pc = .ok (.putfield index, 3))
    (kk : ∀ (H1 : Heap) (locs1 : List Loc), PI D K ws' s H1 → va_S A H0 H1 locs1 → W p l e R s m args below meth c H1 locs1 cells slots Q (F0 m (pc + 3) ls rest)) : W p l e R s m args below meth c H locs cells slots Q (F0 m pc ls (v :: .ref ad :: rest)) := by
  refine va_put (C := RX0) (T := TX0) (N := 2) S.1 S.2.1 S.2.2.2.2 inX0 tyX0 tyX0_ok nmX0 S.2.2.2.1 hI.2 hI.1 hD hS q0 he rfl k hk (S.2.2.2.2 _ hl) (fun _ h9 => h9) hfin hd hn hfit hlen hdg (fun H1 locs1 hP1 hD1 hS1 => ?_)
  rw [hws] at hP1
  exact kk H1 locs1 ⟨hP1, hI.2⟩ hS1
theorem g1 {ad : Nat} {fs : List Value} {v : Value} (S : CallFix p m c cc nL s args lw_tb own) (hI : PI D K ws s H) (q0 : Nat) (he : ws[q0]? = some (ad, .inr (1, fs))) (k : Nat) (hk : k < 7) (hl : Cond.fieldLink own index (TX1 k).1 (TX1 k).2.1 (TX1 k).2.2.1 ∈ lw_tb) (hv : fs[k]? = some v) (hdg : decode cc pc = .ok (.getfield index, 3))
    (kk : W p l e R s m args below meth c H locs cells slots Q (F0 m (pc + 3) ls (v :: rest))) : W p l e R s m args below meth c H locs cells slots Q (F0 m pc ls (.ref ad :: rest)) :=
  va_get (C := RX1) (T := TX1) (N := 7) S.1 S.2.1 S.2.2.2.2 inX1 S.2.2.2.1 hI.2 hI.1 q0 he rfl k hk (S.2.2.2.2 _ hl) (fun _ h9 => h9) hv hdg kk
theorem p1 {ws' : va_W} {ad : Nat} {fs : List Value} {v : Value} {ty : FieldType} (S : CallFix p m c cc nL s args lw_tb own) (hI : PI D K ws s H) (hD : va_D A ws) (hS : va_S A H0 H locs) (q0 : Nat) (he : ws[q0]? = some (ad, .inr (1, fs))) (k : Nat) (hk : k < 7) (hl : Cond.fieldLink own index (TX1 k).1 (TX1 k).2.1 (TX1 k).2.2.1 ∈ lw_tb) (hfin : (TX1 k).2.2.2 = false) (hd : parseFieldDescriptor (TX1 k).2.2.1 = some ty) (hn : narrow ty v = v) (hfit : fits ty v = true) (hlen : k < fs.length) (hws : ws.set q0 (ad, .inr (1, fs.set k v)) = ws') (hdg : decode cc pc = .ok (.putfield index, 3))
    (kk : ∀ (H1 : Heap) (locs1 : List Loc), PI D K ws' s H1 → va_S A H0 H1 locs1 → W p l e R s m args below meth c H1 locs1 cells slots Q (F0 m (pc + 3) ls rest)) : W p l e R s m args below meth c H locs cells slots Q (F0 m pc ls (v :: .ref ad :: rest)) := by
  refine va_put (C := RX1) (T := TX1) (N := 7) S.1 S.2.1 S.2.2.2.2 inX1 tyX1 tyX1_ok nmX1 S.2.2.2.1 hI.2 hI.1 hD hS q0 he rfl k hk (S.2.2.2.2 _ hl) (fun _ h9 => h9) hfin hd hn hfit hlen hdg (fun H1 locs1 hP1 hD1 hS1 => ?_)
  rw [hws] at hP1
  exact kk H1 locs1 ⟨hP1, hI.2⟩ hS1
theorem g2 {ad : Nat} {fs : List Value} {v : Value} (S : CallFix p m c cc nL s args lw_tb own) (hI : PI D K ws s H) (q0 : Nat) (he : ws[q0]? = some (ad, .inr (2, fs))) (k : Nat) (hk : k < 4) (hl : Cond.fieldLink own index (TX2 k).1 (TX2 k).2.1 (TX2 k).2.2.1 ∈ lw_tb) (hv : fs[k]? = some v) (hdg : decode cc pc = .ok (.getfield index, 3))
    (kk : W p l e R s m args below meth c H locs cells slots Q (F0 m (pc + 3) ls (v :: rest))) : W p l e R s m args below meth c H locs cells slots Q (F0 m pc ls (.ref ad :: rest)) :=
  va_get (C := RX2) (T := TX2) (N := 4) S.1 S.2.1 S.2.2.2.2 inX2 S.2.2.2.1 hI.2 hI.1 q0 he rfl k hk (S.2.2.2.2 _ hl) (fun _ h9 => h9) hv hdg kk
theorem p2 {ws' : va_W} {ad : Nat} {fs : List Value} {v : Value} {ty : FieldType} (S : CallFix p m c cc nL s args lw_tb own) (hI : PI D K ws s H) (hD : va_D A ws) (hS : va_S A H0 H locs) (q0 : Nat) (he : ws[q0]? = some (ad, .inr (2, fs))) (k : Nat) (hk : k < 4) (hl : Cond.fieldLink own index (TX2 k).1 (TX2 k).2.1 (TX2 k).2.2.1 ∈ lw_tb) (hfin : (TX2 k).2.2.2 = false) (hd : parseFieldDescriptor (TX2 k).2.2.1 = some ty) (hn : narrow ty v = v) (hfit : fits ty v = true) (hlen : k < fs.length) (hws : ws.set q0 (ad, .inr (2, fs.set k v)) = ws') (hdg : decode cc pc = .ok (.putfield index, 3))
    (kk : ∀ (H1 : Heap) (locs1 : List Loc), PI D K ws' s H1 → va_S A H0 H1 locs1 → W p l e R s m args below meth c H1 locs1 cells slots Q (F0 m (pc + 3) ls rest)) : W p l e R s m args below meth c H locs cells slots Q (F0 m pc ls (v :: .ref ad :: rest)) := by
  refine va_put (C := RX2) (T := TX2) (N := 4) S.1 S.2.1 S.2.2.2.2 inX2 tyX2 tyX2_ok nmX2 S.2.2.2.1 hI.2 hI.1 hD hS q0 he rfl k hk (S.2.2.2.2 _ hl) (fun _ h9 => h9) hfin hd hn hfit hlen hdg (fun H1 locs1 hP1 hD1 hS1 => ?_)
  rw [hws] at hP1
  exact kk H1 locs1 ⟨hP1, hI.2⟩ hS1
theorem g3 {ad : Nat} {fs : List Value} {v : Value} (S : CallFix p m c cc nL s args lw_tb own) (hI : PI D K ws s H) (q0 : Nat) (he : ws[q0]? = some (ad, .inr (3, fs))) (k : Nat) (hk : k < 7) (hl : Cond.fieldLink own index (TX3 k).1 (TX3 k).2.1 (TX3 k).2.2.1 ∈ lw_tb) (hv : fs[k]? = some v) (hdg : decode cc pc = .ok (.getfield index, 3))
    (kk : W p l e R s m args below meth c H locs cells slots Q (F0 m (pc + 3) ls (v :: rest))) : W p l e R s m args below meth c H locs cells slots Q (F0 m pc ls (.ref ad :: rest)) :=
  va_get (C := RX3) (T := TX3) (N := 7) S.1 S.2.1 S.2.2.2.2 inX3 S.2.2.2.1 hI.2 hI.1 q0 he rfl k hk (S.2.2.2.2 _ hl) (fun _ h9 => h9) hv hdg kk
theorem p3 {ws' : va_W} {ad : Nat} {fs : List Value} {v : Value} {ty : FieldType} (S : CallFix p m c cc nL s args lw_tb own) (hI : PI D K ws s H) (hD : va_D A ws) (hS : va_S A H0 H locs) (q0 : Nat) (he : ws[q0]? = some (ad, .inr (3, fs))) (k : Nat) (hk : k < 7) (hl : Cond.fieldLink own index (TX3 k).1 (TX3 k).2.1 (TX3 k).2.2.1 ∈ lw_tb) (hfin : (TX3 k).2.2.2 = false) (hd : parseFieldDescriptor (TX3 k).2.2.1 = some ty) (hn : narrow ty v = v) (hfit : fits ty v = true) (hlen : k < fs.length) (hws : ws.set q0 (ad, .inr (3, fs.set k v)) = ws') (hdg : decode cc pc = .ok (.putfield index, 3))
    (kk : ∀ (H1 : Heap) (locs1 : List Loc), PI D K ws' s H1 → va_S A H0 H1 locs1 → W p l e R s m args below meth c H1 locs1 cells slots Q (F0 m (pc + 3) ls rest)) : W p l e R s m args below meth c H locs cells slots Q (F0 m pc ls (v :: .ref ad :: rest)) := by
  refine va_put (C := RX3) (T := TX3) (N := 7) S.1 S.2.1 S.2.2.2.2 inX3 tyX3 tyX3_ok nmX3 S.2.2.2.1 hI.2 hI.1 hD hS q0 he rfl k hk (S.2.2.2.2 _ hl) (fun _ h9 => h9) hfin hd hn hfit hlen hdg (fun H1 locs1 hP1 hD1 hS1 => ?_)
  rw [hws] at hP1
  exact kk H1 locs1 ⟨hP1, hI.2⟩ hS1
theorem g4 {ad : Nat} {fs : List Value} {v : Value} (S : CallFix p m c cc nL s args lw_tb own) (hI : PI D K ws s H) (q0 : Nat) (he : ws[q0]? = some (ad, .inr (4, fs))) (k : Nat) (hk : k < 3) (hl : Cond.fieldLink own index (TX4 k).1 (TX4 k).2.1 (TX4 k).2.2.1 ∈ lw_tb) (hv : fs[k]? = some v) (hdg : decode cc pc = .ok (.getfield index, 3))
    (kk : W p l e R s m args below meth c H locs cells slots Q (F0 m (pc + 3) ls (v :: rest))) : W p l e R s m args below meth c H locs cells slots Q (F0 m pc ls (.ref ad :: rest)) :=
  va_get (C := RX4) (T := TX4) (N := 3) S.1 S.2.1 S.2.2.2.2 inX4 S.2.2.2.1 hI.2 hI.1 q0 he rfl k hk (S.2.2.2.2 _ hl) (fun _ h9 => h9) hv hdg kk
theorem p4 {ws' : va_W} {ad : Nat} {fs : List Value} {v : Value} {ty : FieldType} (S : CallFix p m c cc nL s args lw_tb own) (hI : PI D K ws s H) (hD : va_D A ws) (hS : va_S A H0 H locs) (q0 : Nat) (he : ws[q0]? = some (ad, .inr (4, fs))) (k : Nat) (hk : k < 3) (hl : Cond.fieldLink own index (TX4 k).1 (TX4 k).2.1 (TX4 k).2.2.1 ∈ lw_tb) (hfin : (TX4 k).2.2.2 = false) (hd : parseFieldDescriptor (TX4 k).2.2.1 = some ty) (hn : narrow ty v = v) (hfit : fits ty v = true) (hlen : k < fs.length) (hws : ws.set q0 (ad, .inr (4, fs.set k v)) = ws') (hdg : decode cc pc = .ok (.putfield index, 3))
    (kk : ∀ (H1 : Heap) (locs1 : List Loc), PI D K ws' s H1 → va_S A H0 H1 locs1 → W p l e R s m args below meth c H1 locs1 cells slots Q (F0 m (pc + 3) ls rest)) : W p l e R s m args below meth c H locs cells slots Q (F0 m pc ls (v :: .ref ad :: rest)) := by
  refine va_put (C := RX4) (T := TX4) (N := 3) S.1 S.2.1 S.2.2.2.2 inX4 tyX4 tyX4_ok nmX4 S.2.2.2.1 hI.2 hI.1 hD hS q0 he rfl k hk (S.2.2.2.2 _ hl) (fun _ h9 => h9) hfin hd hn hfit hlen hdg (fun H1 locs1 hP1 hD1 hS1 => ?_)
  rw [hws] at hP1
  exact kk H1 locs1 ⟨hP1, hI.2⟩ hS1
theorem g5 {ad : Nat} {fs : List Value} {v : Value} (S : CallFix p m c cc nL s args lw_tb own) (hI : PI D K ws s H) (q0 : Nat) (he : ws[q0]? = some (ad, .inr (5, fs))) (k : Nat) (hk : k < 1) (hl : Cond.fieldLink own index (TX5 k).1 (TX5 k).2.1 (TX5 k).2.2.1 ∈ lw_tb) (hv : fs[k]? = some v) (hdg : decode cc pc = .ok (.getfield index, 3))
    (kk : W p l e R s m args below meth c H locs cells slots Q (F0 m (pc + 3) ls (v :: rest))) : W p l e R s m args below meth c H locs cells slots Q (F0 m pc ls (.ref ad :: rest)) :=
  va_get (C := RX5) (T := TX5) (N := 1) S.1 S.2.1 S.2.2.2.2 inX5 S.2.2.2.1 hI.2 hI.1 q0 he rfl k hk (S.2.2.2.2 _ hl) (fun _ h9 => h9) hv hdg kk
theorem p5 {ws' : va_W} {ad : Nat} {fs : List Value} {v : Value} {ty : FieldType} (S : CallFix p m c cc nL s args lw_tb own) (hI : PI D K ws s H) (hD : va_D A ws) (hS : va_S A H0 H locs) (q0 : Nat) (he : ws[q0]? = some (ad, .inr (5, fs))) (k : Nat) (hk : k < 1) (hl : Cond.fieldLink own index (TX5 k).1 (TX5 k).2.1 (TX5 k).2.2.1 ∈ lw_tb) (hfin : (TX5 k).2.2.2 = false) (hd : parseFieldDescriptor (TX5 k).2.2.1 = some ty) (hn : narrow ty v = v) (hfit : fits ty v = true) (hlen : k < fs.length) (hws : ws.set q0 (ad, .inr (5, fs.set k v)) = ws') (hdg : decode cc pc = .ok (.putfield index, 3))
    (kk : ∀ (H1 : Heap) (locs1 : List Loc), PI D K ws' s H1 → va_S A H0 H1 locs1 → W p l e R s m args below meth c H1 locs1 cells slots Q (F0 m (pc + 3) ls rest)) : W p l e R s m args below meth c H locs cells slots Q (F0 m pc ls (v :: .ref ad :: rest)) := by
  refine va_put (C := RX5) (T := TX5) (N := 1) S.1 S.2.1 S.2.2.2.2 inX5 tyX5 tyX5_ok nmX5 S.2.2.2.1 hI.2 hI.1 hD hS q0 he rfl k hk (S.2.2.2.2 _ hl) (fun _ h9 => h9) hfin hd hn hfit hlen hdg (fun H1 locs1 hP1 hD1 hS1 => ?_)
  rw [hws] at hP1
  exact kk H1 locs1 ⟨hP1, hI.2⟩ hS1
theorem g6 {ad : Nat} {fs : List Value} {v : Value} (S : CallFix p m c cc nL s args lw_tb own) (hI : PI D K ws s H) (q0 : Nat) (he : ws[q0]? = some (ad, .inr (6, fs))) (k : Nat) (hk : k < 6) (hl : Cond.fieldLink own index (TX6 k).1 (TX6 k).2.1 (TX6 k).2.2.1 ∈ lw_tb) (hv : fs[k]? = some v) (hdg : decode cc pc = .ok (.getfield index, 3))
    (kk : W p l e R s m args below meth c H locs cells slots Q (F0 m (pc + 3) ls (v :: rest))) : W p l e R s m args below meth c H locs cells slots Q (F0 m pc ls (.ref ad :: rest)) :=
  va_get (C := RX6) (T := TX6) (N := 6) S.1 S.2.1 S.2.2.2.2 inX6 S.2.2.2.1 hI.2 hI.1 q0 he rfl k hk (S.2.2.2.2 _ hl) (fun _ h9 => h9) hv hdg kk
theorem p6 {ws' : va_W} {ad : Nat} {fs : List Value} {v : Value} {ty : FieldType} (S : CallFix p m c cc nL s args lw_tb own) (hI : PI D K ws s H) (hD : va_D A ws) (hS : va_S A H0 H locs) (q0 : Nat) (he : ws[q0]? = some (ad, .inr (6, fs))) (k : Nat) (hk : k < 6) (hl : Cond.fieldLink own index (TX6 k).1 (TX6 k).2.1 (TX6 k).2.2.1 ∈ lw_tb) (hfin : (TX6 k).2.2.2 = false) (hd : parseFieldDescriptor (TX6 k).2.2.1 = some ty) (hn : narrow ty v = v) (hfit : fits ty v = true) (hlen : k < fs.length) (hws : ws.set q0 (ad, .inr (6, fs.set k v)) = ws') (hdg : decode cc pc = .ok (.putfield index, 3))
    (kk : ∀ (H1 : Heap) (locs1 : List Loc), PI D K ws' s H1 → va_S A H0 H1 locs1 → W p l e R s m args below meth c H1 locs1 cells slots Q (F0 m (pc + 3) ls rest)) : W p l e R s m args below meth c H locs cells slots Q (F0 m pc ls (v :: .ref ad :: rest)) := by
  refine va_put (C := RX6) (T := TX6) (N := 6) S.1 S.2.1 S.2.2.2.2 inX6 tyX6 tyX6_ok nmX6 S.2.2.2.1 hI.2 hI.1 hD hS q0 he rfl k hk (S.2.2.2.2 _ hl) (fun _ h9 => h9) hfin hd hn hfit hlen hdg (fun H1 locs1 hP1 hD1 hS1 => ?_)
  rw [hws] at hP1
  exact kk H1 locs1 ⟨hP1, hI.2⟩ hS1
theorem g7 {ad : Nat} {fs : List Value} {v : Value} (S : CallFix p m c cc nL s args lw_tb own) (hI : PI D K ws s H) (q0 : Nat) (he : ws[q0]? = some (ad, .inr (7, fs))) (k : Nat) (hk : k < 5) (hl : Cond.fieldLink own index (TX7 k).1 (TX7 k).2.1 (TX7 k).2.2.1 ∈ lw_tb) (hv : fs[k]? = some v) (hdg : decode cc pc = .ok (.getfield index, 3))
    (kk : W p l e R s m args below meth c H locs cells slots Q (F0 m (pc + 3) ls (v :: rest))) : W p l e R s m args below meth c H locs cells slots Q (F0 m pc ls (.ref ad :: rest)) :=
  va_get (C := RX7) (T := TX7) (N := 5) S.1 S.2.1 S.2.2.2.2 inX7 S.2.2.2.1 hI.2 hI.1 q0 he rfl k hk (S.2.2.2.2 _ hl) (fun _ h9 => h9) hv hdg kk
theorem p7 {ws' : va_W} {ad : Nat} {fs : List Value} {v : Value} {ty : FieldType} (S : CallFix p m c cc nL s args lw_tb own) (hI : PI D K ws s H) (hD : va_D A ws) (hS : va_S A H0 H locs) (q0 : Nat) (he : ws[q0]? = some (ad, .inr (7, fs))) (k : Nat) (hk : k < 5) (hl : Cond.fieldLink own index (TX7 k).1 (TX7 k).2.1 (TX7 k).2.2.1 ∈ lw_tb) (hfin : (TX7 k).2.2.2 = false) (hd : parseFieldDescriptor (TX7 k).2.2.1 = some ty) (hn : narrow ty v = v) (hfit : fits ty v = true) (hlen : k < fs.length) (hws : ws.set q0 (ad, .inr (7, fs.set k v)) = ws') (hdg : decode cc pc = .ok (.putfield index, 3))
    (kk : ∀ (H1 : Heap) (locs1 : List Loc), PI D K ws' s H1 → va_S A H0 H1 locs1 → W p l e R s m args below meth c H1 locs1 cells slots Q (F0 m (pc + 3) ls rest)) : W p l e R s m args below meth c H locs cells slots Q (F0 m pc ls (v :: .ref ad :: rest)) := by
  refine va_put (C := RX7) (T := TX7) (N := 5) S.1 S.2.1 S.2.2.2.2 inX7 tyX7 tyX7_ok nmX7 S.2.2.2.1 hI.2 hI.1 hD hS q0 he rfl k hk (S.2.2.2.2 _ hl) (fun _ h9 => h9) hfin hd hn hfit hlen hdg (fun H1 locs1 hP1 hD1 hS1 => ?_)
  rw [hws] at hP1
  exact kk H1 locs1 ⟨hP1, hI.2⟩ hS1
theorem ly_aald {ad n k t0 : Nat} {ty : FieldType} {f : Nat → Option Nat} {v : Nat} {kA : ClassId} (S : CallFix p m c cc nL s args lw_tb own) (hI : PI D K ws s H) (q0 : Nat) (ha : ws[q0]? = some (ad, .inl (kA, n, .inr (.inr (.inr (.inr f)))))) (ht : (tyl K)[t0]? = some (kA, ty)) (hty : refKind ty = true) (hk : k < n) (hn : n < 2 ^ 31) (hv : f k = some v) (hdg : decode cc pc = .ok (.aaload, 1))
    (kk : W p l e R s m args below meth c H locs cells slots Q (F0 m (pc + 1) ls (.ref v :: rest))) : W p l e R s m args below meth c H locs cells slots Q (F0 m pc ls (.int (nI k) :: .ref ad :: rest)) := by
  have hin : vp_in (nI k) n := vp_in_nI hk hn
  have hlt : (nI k).toNatClampNeg < n := by rw [nI_clamp (Nat.lt_trans hk hn)]; exact hk
  refine W.aald (v := va_rf (f (nI k).toNatClampNeg)) (ty := ty) S.1 S.2.1 (hI.1 q0 _ ha) ((hI.2.2 t0 _ ht).1 n (fun j => va_rf (f j))) hty (fun q => by cases q) (by show ¬ (nI k < 0 ∨ (arrV _ _ _).slots.size ≤ _); rw [arrV_size]; exact hin) (by show (arrV _ _ _).slots[_]? = _; rw [arrV_read _ _ hlt]) rfl rfl hdg ?_
  rw [nI_clamp (Nat.lt_trans hk hn), hv]
  exact kk
theorem ly_alen {ad t0 : Nat} {x : vp_A} {ty : FieldType} {kA : ClassId} {v : Int32} (S : CallFix p m c cc nL s args lw_tb own) (hI : PI D K ws s H) (q0 : Nat) (ha : ws[q0]? = some (ad, .inl (kA, x))) (ht : (tyl K)[t0]? = some (kA, ty)) (hv : Int32.ofNat x.1 = v) (hdg : decode cc pc = .ok (.arraylength, 1))
    (kk : W p l e R s m args below meth c H locs cells slots Q (F0 m (pc + 1) ls (.int v :: rest))) : W p l e R s m args below meth c H locs cells slots Q (F0 m pc ls (.ref ad :: rest)) := va_alen S.1 S.2.1 hI.2 hI.1 q0 t0 ha ht hv hdg kk
theorem ly_min {x z : Nat} (S : CallFix p m c cc nL s args lw_tb own) (hl : Cond.methodLink own index Lib.Math.min.name ∈ lw_tb) (hR : RO 0 R cells slots) (hsz : ls.size = nL) (hW : (rest.map fun v => v.category).sum ≤ 8) (hx : x < 2 ^ 31) (hz : z < 2 ^ 31) (hdg : decode cc pc = .ok (.invokestatic index, 3))
    (kk : W p l e R s m args below meth c H locs cells slots Q (F0 m (pc + 3) ls (.int (nI (min x z)) :: rest))) : W p l e R s m args below meth c H locs cells slots Q (F0 m pc ls (.int (nI z) :: .int (nI x) :: rest)) := by
  have h2 := hR.2.1
  refine va_mmin S.1 S.2.1 (by rw [S.2.2.1, hsz]) S.2.2.2.1 (S.2.2.2.2 _ hl) (S.2.2.2.2 _ twMinS) (S.2.2.2.2 _ twMinI) (S.2.2.2.2 _ twMinC) hR.1 (by omega) hR.2.2.1 hR.2.2.2 hdg ?_
  have e : (if nI z < nI x then nI z else nI x) = nI (min x z) := by
    by_cases h : z < x
    · rw [if_pos ((nI_ltI hz hx).mpr h), Nat.min_eq_right (Nat.le_of_lt h)]
    · rw [if_neg (mt (nI_ltI hz hx).mp h), Nat.min_eq_left (by omega)]
  rw [e]
  exact kk
end CW
section CF
variable {K : Nat → ClassId} {b : Nat → Nat} {w n lap : Nat} {op mu ba la en : Nat → Nat} {pr : Nat → Option Nat} {fr : Bool} {co : Nat → Nat → Nat} {cw cj : Nat → Int64} {cl : Nat} {rv : Int64} {rc : Nat} {pj : Nat → Nat → Nat} {pw ch : Nat → Nat} {pl lc : Nat} {tl : Nat → Nat} {i j v : Nat}
theorem cw_en (h : i < 2) : (cW K b w n lap op mu ba la en pr fr co cw cj cl rv rc pj pw ch pl lc tl)[6 + i]? = some (b (6 + i), enE K en i) := by
  have hc : i = 0 ∨ i = 1 := by omega
  rcases hc with rfl | rfl <;> rfl
theorem cw_cr (h : i < 9) : (cW K b w n lap op mu ba la en pr fr co cw cj cl rv rc pj pw ch pl lc tl)[19 + i]? = some (b (19 + i), crE op mu ba la i) := by
  have hc : i = 0 ∨ i = 1 ∨ i = 2 ∨ i = 3 ∨ i = 4 ∨ i = 5 ∨ i = 6 ∨ i = 7 ∨ i = 8 := by omega
  rcases hc with rfl | rfl | rfl | rfl | rfl | rfl | rfl | rfl | rfl <;> rfl
theorem cw_co (h : i < 8) : (cW K b w n lap op mu ba la en pr fr co cw cj cl rv rc pj pw ch pl lc tl)[28 + i]? = some (b (28 + i), rowE K co i) := by
  have hc : i = 0 ∨ i = 1 ∨ i = 2 ∨ i = 3 ∨ i = 4 ∨ i = 5 ∨ i = 6 ∨ i = 7 := by omega
  rcases hc with rfl | rfl | rfl | rfl | rfl | rfl | rfl | rfl <;> rfl
theorem cw_pj (h : i < 8) : (cW K b w n lap op mu ba la en pr fr co cw cj cl rv rc pj pw ch pl lc tl)[36 + i]? = some (b (36 + i), rowE K pj i) := by
  have hc : i = 0 ∨ i = 1 ∨ i = 2 ∨ i = 3 ∨ i = 4 ∨ i = 5 ∨ i = 6 ∨ i = 7 := by omega
  rcases hc with rfl | rfl | rfl | rfl | rfl | rfl | rfl | rfl <;> rfl
theorem cs_op (h : i < 8) : (cW K b w n lap op mu ba la en pr fr co cw cj cl rv rc pj pw ch pl lc tl).set (19 + i) (b (19 + i), .inr (2, [.int (nI v), .int (nI (gz mu i)), .int (nI (gz ba i)), .int (nI (gz la i))])) = cW K b w n lap (va_up op i v) mu ba la en pr fr co cw cj cl rv rc pj pw ch pl lc tl := by
  have hc : i = 0 ∨ i = 1 ∨ i = 2 ∨ i = 3 ∨ i = 4 ∨ i = 5 ∨ i = 6 ∨ i = 7 := by omega
  rcases hc with rfl | rfl | rfl | rfl | rfl | rfl | rfl | rfl <;> rfl
theorem cs_mu (h : i < 8) : (cW K b w n lap op mu ba la en pr fr co cw cj cl rv rc pj pw ch pl lc tl).set (19 + i) (b (19 + i), .inr (2, [.int (nI (gz op i)), .int (nI v), .int (nI (gz ba i)), .int (nI (gz la i))])) = cW K b w n lap op (va_up mu i v) ba la en pr fr co cw cj cl rv rc pj pw ch pl lc tl := by
  have hc : i = 0 ∨ i = 1 ∨ i = 2 ∨ i = 3 ∨ i = 4 ∨ i = 5 ∨ i = 6 ∨ i = 7 := by omega
  rcases hc with rfl | rfl | rfl | rfl | rfl | rfl | rfl | rfl <;> rfl
theorem cs_ba (h : i < 8) : (cW K b w n lap op mu ba la en pr fr co cw cj cl rv rc pj pw ch pl lc tl).set (19 + i) (b (19 + i), .inr (2, [.int (nI (gz op i)), .int (nI (gz mu i)), .int (nI v), .int (nI (gz la i))])) = cW K b w n lap op mu (va_up ba i v) la en pr fr co cw cj cl rv rc pj pw ch pl lc tl := by
  have hc : i = 0 ∨ i = 1 ∨ i = 2 ∨ i = 3 ∨ i = 4 ∨ i = 5 ∨ i = 6 ∨ i = 7 := by omega
  rcases hc with rfl | rfl | rfl | rfl | rfl | rfl | rfl | rfl <;> rfl
theorem cs_la (h : i < 8) : (cW K b w n lap op mu ba la en pr fr co cw cj cl rv rc pj pw ch pl lc tl).set (19 + i) (b (19 + i), .inr (2, [.int (nI (gz op i)), .int (nI (gz mu i)), .int (nI (gz ba i)), .int (nI v)])) = cW K b w n lap op mu ba (va_up la i v) en pr fr co cw cj cl rv rc pj pw ch pl lc tl := by
  have hc : i = 0 ∨ i = 1 ∨ i = 2 ∨ i = 3 ∨ i = 4 ∨ i = 5 ∨ i = 6 ∨ i = 7 := by omega
  rcases hc with rfl | rfl | rfl | rfl | rfl | rfl | rfl | rfl <;> rfl
theorem cs_co (h : i < 8) : (cW K b w n lap op mu ba la en pr fr co cw cj cl rv rc pj pw ch pl lc tl).set (28 + i) (b (28 + i), .inl (K 0, 512, .inl (upd (fun z => nI (co i z)) j (nI v)))) = cW K b w n lap op mu ba la en pr fr (va_up co i (va_up (co i) j v)) cw cj cl rv rc pj pw ch pl lc tl := by
  rw [nI_up]
  have hc : i = 0 ∨ i = 1 ∨ i = 2 ∨ i = 3 ∨ i = 4 ∨ i = 5 ∨ i = 6 ∨ i = 7 := by omega
  rcases hc with rfl | rfl | rfl | rfl | rfl | rfl | rfl | rfl <;> rfl
theorem cs_pj (h : i < 8) : (cW K b w n lap op mu ba la en pr fr co cw cj cl rv rc pj pw ch pl lc tl).set (36 + i) (b (36 + i), .inl (K 0, 512, .inl (upd (fun z => nI (pj i z)) j (nI v)))) = cW K b w n lap op mu ba la en pr fr co cw cj cl rv rc (va_up pj i (va_up (pj i) j v)) pw ch pl lc tl := by
  rw [nI_up]
  have hc : i = 0 ∨ i = 1 ∨ i = 2 ∨ i = 3 ∨ i = 4 ∨ i = 5 ∨ i = 6 ∨ i = 7 := by omega
  rcases hc with rfl | rfl | rfl | rfl | rfl | rfl | rfl | rfl <;> rfl
theorem cs_en (h : i < 2) (hj : j < 2) : (cW K b w n lap op mu ba la en pr fr co cw cj cl rv rc pj pw ch pl lc tl).set (6 + i) (b (6 + i), .inl (K 0, 2, .inl (upd (fun z => nI (if z < 2 then en (2 * i + z) else 0)) j (nI v)))) = cW K b w n lap op mu ba la (va_up en (2 * i + j) v) pr fr co cw cj cl rv rc pj pw ch pl lc tl := by
  have e1 : ∀ i', i' < 2 → i' ≠ i → enE K en i' = enE K (va_up en (2 * i + j) v) i' := by
    intro i' h1 h2
    unfold enE
    congr 4
    funext z
    unfold va_up
    split
    · rw [if_neg (by omega)]
    · rfl
  have e2 : (.inl (K 0, 2, .inl (upd (fun z => nI (if z < 2 then en (2 * i + z) else 0)) j (nI v))) : va_E) = enE K (va_up en (2 * i + j) v) i := by
    unfold enE
    rw [nI_up]
    congr 4
    funext z
    unfold va_up
    by_cases e : z = j
    · subst e
      rw [if_pos rfl, if_pos hj, if_pos rfl]
    · rw [if_neg e]
      show nI (if z < 2 then en (2 * i + z) else 0) = _
      by_cases h2 : z < 2
      · rw [if_pos h2, if_pos h2, if_neg (by omega)]
      · rw [if_neg h2, if_neg h2]
  rw [e2]
  have hc : i = 0 ∨ i = 1 := by omega
  rcases hc with rfl | rfl
  · have e3 := e1 1 (by omega) (by omega)
    unfold cW
    rw [e3]
    rfl
  · have e3 := e1 0 (by omega) (by omega)
    unfold cW
    rw [e3]
    rfl
theorem cs_pw : (cW K b w n lap op mu ba la en pr fr co cw cj cl rv rc pj pw ch pl lc tl).set 15 (b 15, .inl (K 0, 512, .inl (upd (fun z => nI (pw z)) j (nI v)))) = cW K b w n lap op mu ba la en pr fr co cw cj cl rv rc pj (va_up pw j v) ch pl lc tl := by rw [nI_up]; rfl
theorem cs_ch : (cW K b w n lap op mu ba la en pr fr co cw cj cl rv rc pj pw ch pl lc tl).set 16 (b 16, .inl (K 0, 8, .inl (upd (fun z => nI (ch z)) j (nI v)))) = cW K b w n lap op mu ba la en pr fr co cw cj cl rv rc pj pw (va_up ch j v) pl lc tl := by rw [nI_up]; rfl
theorem cs_tl : (cW K b w n lap op mu ba la en pr fr co cw cj cl rv rc pj pw ch pl lc tl).set 18 (b 18, .inl (K 0, 11, .inl (upd (fun z => nI (tl z)) j (nI v)))) = cW K b w n lap op mu ba la en pr fr co cw cj cl rv rc pj pw ch pl lc (va_up tl j v) := by rw [nI_up]; rfl
theorem cs_pr {q : Option Nat} (h : j ≠ 0) : (cW K b w n lap op mu ba la en pr fr co cw cj cl rv rc pj pw ch pl lc tl).set 4 (b 4, .inl (K 0, 7, .inl (upd (pz (-9) pr) j (pI q)))) = cW K b w n lap op mu ba la en (va_up pr j q) fr co cw cj cl rv rc pj pw ch pl lc tl := by rw [pz_up h]; rfl
theorem cs_cw {x : Int64} : (cW K b w n lap op mu ba la en pr fr co cw cj cl rv rc pj pw ch pl lc tl).set 11 (b 11, .inl (K 1, 512, .inr (.inl (va_up cw j x)))) = cW K b w n lap op mu ba la en pr fr co (va_up cw j x) cj cl rv rc pj pw ch pl lc tl := rfl
theorem cs_cj {x : Int64} : (cW K b w n lap op mu ba la en pr fr co cw cj cl rv rc pj pw ch pl lc tl).set 12 (b 12, .inl (K 1, 512, .inr (.inl (va_up cj j x)))) = cW K b w n lap op mu ba la en pr fr co cw (va_up cj j x) cl rv rc pj pw ch pl lc tl := rfl
theorem cD (h : Dis b 44) : va_D (adA b 44) (cW K b w n lap op mu ba la en pr fr co cw cj cl rv rc pj pw ch pl lc tl) := disD h rfl
end CF
theorem gz_lt {f : Nat → Nat} {i : Nat} (h : i < 8) : nI (gz f i) = nI (f i) := by unfold gz; rw [if_pos h]
theorem gz_bw {f : Nat → Nat} {ci : Nat} (h : ci ≤ 8) : nI (gz f (bwc ci)) = nI (bl f ci) := by
  unfold gz bwc bl
  split
  · rw [if_neg (by omega)]
  · rw [if_pos (by omega)]
theorem gzl {f : Nat → Nat} {i : Nat} (h : i < 8) : gz f i = f i := by unfold gz; rw [if_pos h]
theorem gzb {f : Nat → Nat} {ci : Nat} (h : ci ≤ 8) : gz f (bwc ci) = bl f ci := by
  unfold gz bwc bl
  split
  · rw [if_neg (by omega)]
  · rw [if_pos (by omega)]
theorem bwc_lt {ci : Nat} (h : ci ≤ 8) : bwc ci < 9 := by unfold bwc; split <;> omega
theorem gz_le {f : Nat → Nat} {B : Nat} (h : ∀ i, f i < B) (hB : 0 < B) (i : Nat) : gz f i < B := by
  unfold gz
  split
  · exact h i
  · exact hB
def QcV (v : Value) : Array Value → State → Outcome → State → Prop := fun _ st o t => o = .returned (some v) ∧ t.heap = st.heap
section KA
variable {p : Program} {l : Launch} {e : Env} {R : Room} {s : State} {m : MethodId} {args : Array Value} {below : List Frame} {meth : Method} {c : Code} {H : Heap} {locs : List Loc} {cells slots : Nat} {Q : State → Prop}
variable {cc bytes : ByteArray} {nL maxL index pc d : Nat} {own : String} {y : MethodName} {ret : Option FieldType} {ls : Array Slot} {As rest st : List Value} {B : State → Prop} {r : Value} {b : Addr}
theorem kVa (S : CallFix p m c cc nL s args lw_tb own) (hM : Met l y (TWd y bytes maxL ret) (rmk d) (va_Pc (.ref b :: As) B) (QcV r) 0 0 (fun _ => False))
    (hlink : Cond.methodLink own index y ∈ lw_tb) (hst : Cond.instanceMethod y ∈ lw_tb) (hsel : Cond.selects y.cls y y ∈ lw_tb) (hini : Cond.initialized y.cls ∈ lw_tb) (hcode : Cond.code y bytes maxL ret ∈ lw_tb)
    (hd : y.cls ≠ "java/lang/invoke/MethodHandle" ∧ y.cls ≠ "java/lang/invoke/VarHandle" ∧ (parseMethodDescriptor y.desc).map (fun d => d.parameters.length) = some As.length) (hm : maxL ≤ 21)
    (hR : RO d R cells slots) (hbl : FrameBlind (va_Pc (.ref b :: As) B)) (hB : ∀ U : State, U.heap = H → s.WarmedH U.vm → B U)
    (hrecv : ∃ cellB : Cell, H[b]? = some cellB ∧ cellB.vm.isStatics = false ∧ s.vm.findClass y.cls = some cellB.cls)
    (hsz : ls.size = nL) (hstk : st = As.reverse ++ .ref b :: rest) (hW : (rest.map fun v => v.category).sum ≤ 8) (hdg : decode cc pc = .ok (.invokevirtual index, 3))
    (k : W p l e R s m args below meth c H locs cells slots Q (F0 m (pc + 3) ls (r :: rest))) : W p l e R s m args below meth c H locs cells slots Q (F0 m pc ls st) := by
  have hr2 := hR.2.1
  have hr := W.runV (locs := locs) (below := below) (e := e) (meth := meth) (cells := cells) (slots := slots) (g := F0 m pc ls st) (As := As) (rest := rest) (n := As.length) (C := y.cls) (b := b) S hM ⟨callB_of As.length S.2.2.2.2 (tw_good hcode) rfl rfl rfl (S.2.2.2.2 _ hini) (S.2.2.2.2 _ hlink) hd ⟨hR.1, by simp only [rmk]; omega⟩, S.2.2.2.2 _ hst, S.2.2.2.2 _ hsel⟩ ⟨hbl, hrecv, fun U hU hW => ⟨rfl, hB U hU hW⟩⟩ rfl rfl hsz hstk (lv_room hW) hdg ⟨hR.2.2.1, hR.2.2.2⟩
  intro T hT X
  obtain ⟨v, st₀, t, T', L, h0, X', hL, e1, ⟨hv, hh⟩, stp⟩ := hr T hT X
  cases hv
  obtain ⟨t2, a1, b1⟩ := k T' (by rw [e1, hh, h0]) (Stand.forget X' (fun q h => (hL q h).elim))
  exact ⟨t2, stp t2 a1, b1⟩
theorem rt_a {v : Nat} {C : String} (S : CallFix p m c cc nL s args lw_tb own) (hr : meth.sig.returnType = some (.object C)) (hlk : meth.locks = false) (h : Value.ref v = r) (hdg : decode cc pc = .ok (.areturn, 1)) :
    W p l e R s m args below meth c s.heap [] cells slots (MQ below (QcV r) args s cells slots (fun _ => False)) (F0 m pc ls [.ref v]) := W.aret S.1 S.2.1 hr (Or.inl ⟨_, rfl⟩) (Or.inr ⟨_, rfl⟩) (fun t ht _ => ⟨by rw [h], ht⟩) (fun _ h => by cases h) hdg hlk
end KA
