/-! rows used at the walks of pieces; a static method that writes -/
theorem twMaxS : Cond.static Lib.Math.max.name ∈ lw_tb := tb_in 581 (by decide +kernel)
theorem twMaxC : Cond.code Lib.Math.max.name Lib.Math.max.code 2 (some .int) ∈ lw_tb := tb_in 582 (by decide +kernel)
def lyG (la f : Nat → Int64) (k : Nat) : Nat → Int64 := fun q => if q < k then f q else la q
theorem lyG_0 {la f : Nat → Int64} : lyG la f 0 = la := by
  funext q
  unfold lyG
  rw [if_neg (Nat.not_lt_zero q)]
theorem lyG_s {la f : Nat → Int64} {k : Nat} : va_up (lyG la f k) k (f k) = lyG la f (k + 1) := by
  funext q
  unfold va_up lyG
  by_cases e : q = k
  · subst e; simp
  · rw [if_neg e]
    by_cases h : q < k
    · rw [if_pos h, if_pos (by omega)]
    · rw [if_neg h, if_neg (by omega)]
theorem pp_0 {pr : Nat → Option Nat} {L : Nat} (gpr : ∀ i q, pr i = some q → q ≤ 99) (hL : 1 ≤ L) (h : ppI pr L = -9) : 100 = prN pr L := by
  unfold prN
  rw [ppI_n gpr hL h]
  rfl
theorem pp_1 {pr : Nat → Option Nat} {L : Nat} (hL : 1 ≤ L) (h : ¬ ppI pr L = -9) : ppI pr L = nI (prN pr L) := ppI_v hL (ppI_s hL h)
section RB
variable {pr : Nat → Option Nat} {w b e0 e1 x L : Nat}
theorem rb_3 (h : prc pr L = false) : nI 3 = nI (rbP pr w b e0 e1 x L) := by unfold rbP; rw [h]; rfl
theorem rb_4 (h : prc pr L = true) (h4 : r4T w e0 e1 x L = true) : nI 4 = nI (rbP pr w b e0 e1 x L) := by unfold rbP; rw [h, h4]; rfl
theorem rb_5 (h : prc pr L = true) (h4 : r4T w e0 e1 x L = false) (h5 : (b.testBit x || b.testBit (x + L - 1)) = true) : nI 5 = nI (rbP pr w b e0 e1 x L) := by unfold rbP; rw [h, h4, h5]; rfl
theorem rb_6 (h : prc pr L = true) (h4 : r4T w e0 e1 x L = false) (h5 : (b.testBit x || b.testBit (x + L - 1)) = false) (h6 : 4 < L) (h7 : anyN (fun k => b.testBit (x + k)) L = false) : nI 6 = nI (rbP pr w b e0 e1 x L) := by unfold rbP; rw [h, h4, h5, h7, decide_eq_true h6]; rfl
theorem rb_0a (h : prc pr L = true) (h4 : r4T w e0 e1 x L = false) (h5 : (b.testBit x || b.testBit (x + L - 1)) = false) (h6 : L ≤ 4) : nI 0 = nI (rbP pr w b e0 e1 x L) := by unfold rbP; rw [h, h4, h5, decide_eq_false (by omega)]; rfl
theorem rb_0b (h : prc pr L = true) (h4 : r4T w e0 e1 x L = false) (h5 : (b.testBit x || b.testBit (x + L - 1)) = false) (h7 : ¬ anyN (fun k => b.testBit (x + k)) L = false) : nI 0 = nI (rbP pr w b e0 e1 x L) := by
  have h8 : anyN (fun k => b.testBit (x + k)) L = true := by simpa using h7
  unfold rbP; rw [h, h4, h5, h8]; simp
theorem rb_p (h : rbP pr w b e0 e1 x L = 0) : prc pr L = true := by
  cases hp : prc pr L with
  | true => rfl
  | false => unfold rbP at h; rw [hp] at h; simp at h
end RB
section RPK
variable {pr : Nat → Option Nat} {w o b e0 e1 j fr to : Nat}
theorem rp_z (h : LB (bnd w o j) 0 fr to) (hto : to ≤ w) (hb : (bnd w o j).testBit to = true) (ho : o.testBit fr = false) (hz : rbP pr w b e0 e1 fr (to - fr) = 0) : rpS pr w o b e0 e1 j fr = rpS pr w o b e0 e1 j to := by
  rw [rpS_a h hto hb ho, if_neg (by rw [hz]; simp)]
theorem rp_k (h : LB (bnd w o j) 0 fr to) (hto : to ≤ w) (hb : (bnd w o j).testBit to = true) (ho : o.testBit fr = false) (h1 : ¬ rpS pr w o b e0 e1 j fr = 0) (h2 : rpS pr w o b e0 e1 j fr ≤ rbP pr w b e0 e1 fr (to - fr)) : rpS pr w o b e0 e1 j fr = rpS pr w o b e0 e1 j to := by
  rw [rpS_a h hto hb ho, if_neg (by omega)]
theorem rp_n0 (h : LB (bnd w o j) 0 fr to) (hto : to ≤ w) (hb : (bnd w o j).testBit to = true) (ho : o.testBit fr = false) (h1 : ¬ rbP pr w b e0 e1 fr (to - fr) = 0) (h2 : rpS pr w o b e0 e1 j fr = 0) : rbP pr w b e0 e1 fr (to - fr) = rpS pr w o b e0 e1 j to := by
  rw [rpS_a h hto hb ho, if_pos ⟨h1, Or.inl h2⟩]
theorem rp_n1 (h : LB (bnd w o j) 0 fr to) (hto : to ≤ w) (hb : (bnd w o j).testBit to = true) (ho : o.testBit fr = false) (h1 : ¬ rbP pr w b e0 e1 fr (to - fr) = 0) (h2 : rbP pr w b e0 e1 fr (to - fr) < rpS pr w o b e0 e1 j fr) : rbP pr w b e0 e1 fr (to - fr) = rpS pr w o b e0 e1 j to := by
  rw [rpS_a h hto hb ho, if_pos ⟨h1, Or.inr h2⟩]
theorem cbS_lo {lo hi : Nat} : cbS pr w o b e0 e1 lo hi lo = 0 := by unfold cbS; rw [Nat.sub_self]; rfl
theorem cb_bad {lo hi : Nat} (ea : cbS pr w o b e0 e1 lo hi fr + pcst pr w b e0 e1 fr (to - fr) = cbS pr w o b e0 e1 lo hi to) (h : ¬ rbP pr w b e0 e1 fr (to - fr) = 0) (hto : to ≤ hi) : nI 1000000 = nI (cbF pr w o b e0 e1 lo hi) := by
  have h1 : pcst pr w b e0 e1 fr (to - fr) = 1000000 := by unfold pcst; rw [if_neg h]
  have h2 := cbS_mono (pr := pr) (w := w) (o := o) (b := b) (e0 := e0) (e1 := e1) (lo := lo) (hi := hi) hto
  unfold cbF
  rw [Nat.min_eq_left (by omega)]
theorem cb_good {lo hi : Nat} (ea : cbS pr w o b e0 e1 lo hi fr + pcst pr w b e0 e1 fr (to - fr) = cbS pr w o b e0 e1 lo hi to) (h : rbP pr w b e0 e1 fr (to - fr) = 0) : cbS pr w o b e0 e1 lo hi fr + prN pr (to - fr) = cbS pr w o b e0 e1 lo hi to := by
  rw [← ea]
  unfold pcst
  rw [if_pos h]
theorem bnd_j {hi y : Nat} (h : y = hi) : (bnd w o (2 ^ hi)).testBit y = true := by
  rw [bnd_bit, h, Nat.testBit_two_pow]
  simp
end RPK
section KSX
variable {p : Program} {l : Launch} {e : Env} {R : Room} {s : State} {m : MethodId} {args : Array Value} {below : List Frame} {meth : Method} {c : Code} {H : Heap} {locs : List Loc} {cells slots : Nat} {Q : State → Prop}
variable {cc bytes : ByteArray} {nL maxL index pc d : Nat} {own : String} {y : MethodName} {ret : Option FieldType} {ls : Array Slot} {As rest st : List Value} {B : State → Prop} {b : Addr}
variable {D : va_G} {K : Nat → ClassId} {A A0 : Nat → Prop} {H0 : Heap} {ws : va_W}
theorem kSX {σ : Type} {r : σ → Option Value} {wf : σ → va_W} {post : σ → Prop} (S : CallFix p m c cc nL s args lw_tb own) (hM : Met l y (TWd y bytes maxL ret) (rmk d) (va_Pc As B) (QX D K r wf post A) 0 0 A)
    (hlink : Cond.methodLink own index y ∈ lw_tb) (hst : Cond.static y ∈ lw_tb) (hini : Cond.initialized y.cls ∈ lw_tb) (hcode : Cond.code y bytes maxL ret ∈ lw_tb)
    (hd : y.cls ≠ "java/lang/invoke/MethodHandle" ∧ y.cls ≠ "java/lang/invoke/VarHandle" ∧ (parseMethodDescriptor y.desc).map (fun d => d.parameters.length) = some As.length) (hm : maxL ≤ 21)
    (hR : RO d R cells slots) (hbl : FrameBlind (va_Pc As B)) (hB : ∀ U : State, U.heap = H → s.WarmedH U.vm → B U)
    (hS : va_S A0 H0 H locs) (hA : ∀ q, A q → A0 q) (hsz : ls.size = nL) (hstk : st = As.reverse ++ rest) (hW : (rest.map fun v => v.category).sum ≤ 8) (hdg : decode cc pc = .ok (.invokestatic index, 3))
    (kk : ∀ (u : σ) (H1 : Heap) (locs1 : List Loc), post u → PI D K (wf u) s H1 → va_S A0 H0 H1 locs1 → H.size ≤ H1.size → (∀ q : Nat, q < H.size → ¬ A q → H1[q]? = H[q]?) → W p l e R s m args below meth c H1 locs1 cells slots Q (F0 m (pc + 3) ls ((r u).toList ++ rest))) : W p l e R s m args below meth c H locs cells slots Q (F0 m pc ls st) := by
  have hr2 := hR.2.1
  have hr := va_runS (locs := locs) (below := below) (e := e) (meth := meth) (cells := cells) (slots := slots) (g := F0 m pc ls st) (As := As) (rest := rest) (n := As.length) S hM ⟨callB_of As.length S.2.2.2.2 (tw_good hcode) rfl rfl rfl (S.2.2.2.2 _ hini) (S.2.2.2.2 _ hlink) hd ⟨hR.1, by simp only [rmk]; omega⟩, S.2.2.2.2 _ hst⟩ ⟨hbl, fun U hU hW => ⟨rfl, hB U hU hW⟩⟩ rfl rfl hsz hstk (lv_room hW) hdg ⟨hR.2.2.1, hR.2.2.2⟩
  intro T hT X
  obtain ⟨v, st₀, t, T', L, h0, X', hL, e1, e2, ⟨⟨u, hv, hp, hI1⟩, hz, hk⟩, stp⟩ := hr T hT X
  cases hv
  rw [h0] at hz hk
  obtain ⟨t2, a1, b1⟩ := kk u T'.heap (locs ++ L) hp ⟨by rw [e1]; exact hI1.1, va_K.moved (by rw [← e2]; exact X'.warmed.alike.symm) hI1.2⟩
    ⟨Nat.le_trans hS.1 (by rw [e1]; exact hz), fun q h1 h2 => by rw [e1, hk q (Nat.lt_of_lt_of_le h1 hS.1) (fun z => h2 (hA q z))]; exact hS.2.1 q h1 h2, fun q hq => by
      rcases List.mem_append.mp hq with h | h
      · exact hS.2.2 q h
      · exact hA _ (hL q h)⟩ (by rw [e1]; exact hz) (fun q h1 h2 => by rw [e1]; exact hk q h1 h2) T' rfl X'
  exact ⟨t2, stp t2 a1, b1⟩
theorem ly_max0 {x z : Nat} (S : CallFix p m c cc nL s args lw_tb own) (hl : Cond.methodLink own index Lib.Math.max.name ∈ lw_tb) (hR : RO 0 R cells slots) (hsz : ls.size = nL) (hW : (rest.map fun v => v.category).sum ≤ 8) (hx : x < 2 ^ 30) (hz : z < 2 ^ 30) (hdg : decode cc pc = .ok (.invokestatic index, 3))
    (kk : W p l e R s m args below meth c H locs cells slots Q (F0 m (pc + 3) ls (.int (nI (x - z)) :: rest))) : W p l e R s m args below meth c H locs cells slots Q (F0 m pc ls (.int (nI x - nI z) :: .int (nI 0) :: rest)) := by
  have h2 := hR.2.1
  refine va_mmax S.1 S.2.1 (by rw [S.2.2.1, hsz]) S.2.2.2.1 (S.2.2.2.2 _ hl) (S.2.2.2.2 _ twMaxS) (S.2.2.2.2 _ twMinI) (S.2.2.2.2 _ twMaxC) hR.1 (by omega) hR.2.2.1 hR.2.2.2 hdg ?_
  have e : (if nI 0 < nI x - nI z then nI x - nI z else nI 0) = nI (x - z) := by
    by_cases h : z < x
    · rw [if_pos (by rw [Int32.lt_iff_toInt_lt, sub_ti hx hz, nI_0, Int32.toInt_zero]; omega), pk_sub (by omega)]
    · rw [if_neg (by rw [Int32.lt_iff_toInt_lt, sub_ti hx hz, nI_0, Int32.toInt_zero]; omega), Nat.sub_eq_zero_of_le (by omega)]
  rw [e]
  exact kk
end KSX
theorem an_0 {P : Prop} [Decidable P] {t : Bool} (h : ¬ P) : (decide P && !t) = false := by rw [decide_eq_false h]; rfl
theorem an_1 {P : Prop} [Decidable P] {t : Bool} (h : t = true) : (decide P && !t) = false := by rw [h]; cases decide P <;> rfl
theorem an_2 {P : Prop} [Decidable P] {t : Bool} (h : P) (h2 : t = false) : (decide P && !t) = true := by rw [decide_eq_true h, h2]; rfl
