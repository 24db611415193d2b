/-! my rows for methods that write: ends, stores, calls -/
def Dis (a : Nat → Nat) (N : Nat) : Prop := ∀ i j, i < N → j < N → a i = a j → i = j
def adA (a : Nat → Nat) (N : Nat) : Nat → Prop := fun q => ∃ i, i < N ∧ q = a i
theorem disD {a : Nat → Nat} {N : Nat} (h : Dis a N) {ws : va_W} (hm : ws.map Prod.fst = (List.range N).map a) : va_D (adA a N) ws := by
  have key : ∀ (i : Nat) (p : Nat × va_E), ws[i]? = some p → i < N ∧ p.1 = a i := by
    intro i p hi
    have hl : i < N := by
      have h1 := (List.getElem?_eq_some_iff.mp hi).1
      have h2 : ws.length = N := by rw [← List.length_map (f := Prod.fst), hm, List.length_map, List.length_range]
      omega
    refine ⟨hl, ?_⟩
    have h2 : (ws.map Prod.fst)[i]? = some p.1 := by rw [List.getElem?_map, hi]; rfl
    rw [hm, List.getElem?_map, List.getElem?_range hl] at h2
    exact (Option.some.inj h2).symm
  refine ⟨fun i j p q hi hj hpq => ?_, fun k q hk => ?_⟩
  · obtain ⟨h1, e1⟩ := key i p hi
    obtain ⟨h2, e2⟩ := key j q hj
    exact h i j h1 h2 (by rw [← e1, ← e2]; exact hpq)
  · obtain ⟨h1, e1⟩ := key k q hk
    exact ⟨k, h1, e1⟩
theorem mD {a : Nat → Nat} (h : Dis a 13) {K : Nat → ClassId} {w n lap : Nat} {op mu ba la en : Nat → Nat} {pr : Nat → Option Nat} {sc : MSc} : va_D (adA a 13) (mW K a w n lap op mu ba la en pr sc) := disD h rfl
def QX {σ : Type} (D : va_G) (K : Nat → ClassId) (r : σ → Option Value) (ws : σ → va_W) (post : σ → Prop) (A : Nat → Prop) : Array Value → State → Outcome → State → Prop := fun _ st o t => (∃ u : σ, o = .returned (r u) ∧ post u ∧ PI D K (ws u) t t.heap) ∧ va_F A st t
theorem nI_up {f : Nat → Nat} {k v : Nat} : upd (fun i => nI (f i)) k (nI v) = fun i => nI (va_up f k v i) := by
  funext i
  unfold upd va_up
  split <;> rfl
theorem bI_up {f : Nat → Bool} {k : Nat} {v : Bool} : upd (fun i => bI (f i)) k (bI v) = fun i => bI (va_up f k v i) := by
  funext i
  unfold upd va_up
  split <;> rfl
theorem pz_up {z : Int32} {pr : Nat → Option Nat} {k : Nat} {v : Option Nat} (h : k ≠ 0) : upd (pz z pr) k (pI v) = pz z (va_up pr k v) := by
  funext i
  unfold upd pz va_up
  by_cases e : i = k
  · subst e; simp [h]
  · simp [e]
theorem updL_up {f : Nat → Int64} {k : Nat} {v : Int64} : vp_updL f k v = va_up f k v := rfl
theorem bI_nz (b : Bool) : vp_nar .boolean (bI b) = bI b := by cases b <;> rfl
theorem adA_in {a : Nat → Nat} {N i : Nat} (h : i < N) : adA a N (a i) := ⟨i, h, rfl⟩
section KW
variable {p : Program} {l : Launch} {e : Env} {R : Room} {s : State} {m : MethodId} {args : Array Value} {below : List Frame} {meth : Method} {c : Code} {H : Heap} {locs : List Loc} {cells slots : Nat} {Q : State → Prop}
variable {cc bytes : ByteArray} {nL maxL index pc d : Nat} {own : String} {y : MethodName} {ret : Option FieldType} {ls : Array Slot} {As rest st : List Value} {B : State → Prop} {b : Addr}
variable {D : va_G} {K : Nat → ClassId} {A A0 : Nat → Prop} {H0 : Heap} {ws : va_W}
theorem rw_i {σ : Type} {r : σ → Option Value} {wf : σ → va_W} {post : σ → Prop} {v : Int32} (S : CallFix p m c cc nL s args lw_tb own) (hr : meth.sig.returnType = some .int) (hlk : meth.locks = false) (u : σ) (hv : some (.int v) = r u) (hp : post u) (hI : PI D K (wf u) s H) (hS : va_S A s.heap H locs) (hdg : decode cc pc = .ok (.ireturn, 1)) :
    W p l e R s m args below meth c H locs cells slots (MQ below (QX D K r wf post A) args s cells slots A) (F0 m pc ls [.int v]) := W.iret S.1 S.2.1 hr (fun t ht hW => ⟨⟨u, by rw [hv], hp, by rw [ht]; exact hI.1, va_K.moved hW.alike hI.2⟩, hS.F ht⟩) hS.2.2 hdg hlk
theorem rw_l {σ : Type} {r : σ → Option Value} {wf : σ → va_W} {post : σ → Prop} {v : Int64} (S : CallFix p m c cc nL s args lw_tb own) (hr : meth.sig.returnType = some .long) (hlk : meth.locks = false) (u : σ) (hv : some (.long v) = r u) (hp : post u) (hI : PI D K (wf u) s H) (hS : va_S A s.heap H locs) (hdg : decode cc pc = .ok (.lreturn, 1)) :
    W p l e R s m args below meth c H locs cells slots (MQ below (QX D K r wf post A) args s cells slots A) (F0 m pc ls [.long v]) := W.lret S.1 S.2.1 hr (fun t ht hW => ⟨⟨u, by rw [hv], hp, by rw [ht]; exact hI.1, va_K.moved hW.alike hI.2⟩, hS.F ht⟩) hS.2.2 hdg hlk
theorem rw_v {σ : Type} {r : σ → Option Value} {wf : σ → va_W} {post : σ → Prop} (S : CallFix p m c cc nL s args lw_tb own) (hr : meth.sig.returnType = none) (hlk : meth.locks = false) (u : σ) (hv : none = r u) (hp : post u) (hI : PI D K (wf u) s H) (hS : va_S A s.heap H locs) (hdg : decode cc pc = .ok (.return_, 1)) :
    W p l e R s m args below meth c H locs cells slots (MQ below (QX D K r wf post A) args s cells slots A) (F0 m pc ls []) := W.vret S.1 S.2.1 hr (fun t ht hW => ⟨⟨u, by rw [hv], hp, by rw [ht]; exact hI.1, va_K.moved hW.alike hI.2⟩, hS.F ht⟩) hS.2.2 hdg hlk
theorem rw_z {σ : Type} {r : σ → Option Value} {wf : σ → va_W} {post : σ → Prop} {v : Int32} {z : Bool} (S : CallFix p m c cc nL s args lw_tb own) (hr : meth.sig.returnType = some .boolean) (hlk : meth.locks = false) (u : σ) (hz : v = bI z) (hv : some (.int (bI z)) = r u) (hp : post u) (hI : PI D K (wf u) s H) (hS : va_S A s.heap H locs) (hdg : decode cc pc = .ok (.ireturn, 1)) :
    W p l e R s m args below meth c H locs cells slots (MQ below (QX D K r wf post A) args s cells slots A) (F0 m pc ls [.int v]) := by
  subst hz
  exact W.zret S.1 S.2.1 hr (bI_nar z) (fun t ht hW => ⟨⟨u, by rw [hv], hp, by rw [ht]; exact hI.1, va_K.moved hW.alike hI.2⟩, hS.F ht⟩) hS.2.2 hdg hlk
theorem ly_iast {ws' : va_W} {ad n k : Nat} {f : Nat → Int32} {x : Int32} (S : CallFix p m c cc nL s args lw_tb own) (hI : PI D K ws s H) (hD : va_D A ws) (hS : va_S A H0 H locs) (q0 : Nat) (ha : ws[q0]? = some (ad, .inl (K 0, n, .inl f))) (hk : k < n) (hn : n < 2 ^ 31) (hws : ws.set q0 (ad, .inl (K 0, n, .inl (upd f k x))) = ws') (hdg : decode cc pc = .ok (.iastore, 1))
    (kk : ∀ (H1 : Heap) (locs1 : List Loc), PI D K ws' s H1 → va_S A H0 H1 locs1 → W p l e R s m args below meth c H1 locs1 cells slots Q (F0 m (pc + 1) ls rest)) : W p l e R s m args below meth c H locs cells slots Q (F0 m pc ls (.int x :: .int (nI k) :: .ref ad :: rest)) := by
  refine va_iast S.1 S.2.1 hI.2 hI.1 hD hS q0 0 ha rfl (vp_in_nI hk hn) hdg (fun H1 locs1 hP1 hD1 hS1 => ?_)
  rw [nI_clamp (Nat.lt_trans hk hn), hws] at hP1
  exact kk H1 locs1 ⟨hP1, hI.2⟩ hS1
theorem ly_zast {ws' : va_W} {ad n k : Nat} {f : Nat → Int32} {x : Bool} (S : CallFix p m c cc nL s args lw_tb own) (hI : PI D K ws s H) (hD : va_D A ws) (hS : va_S A H0 H locs) (q0 : Nat) (ha : ws[q0]? = some (ad, .inl (K 2, n, .inl f))) (hk : k < n) (hn : n < 2 ^ 31) (hws : ws.set q0 (ad, .inl (K 2, n, .inl (upd f k (bI x)))) = ws') (hdg : decode cc pc = .ok (.bastore, 1))
    (kk : ∀ (H1 : Heap) (locs1 : List Loc), PI D K ws' s H1 → va_S A H0 H1 locs1 → W p l e R s m args below meth c H1 locs1 cells slots Q (F0 m (pc + 1) ls rest)) : W p l e R s m args below meth c H locs cells slots Q (F0 m pc ls (.int (bI x) :: .int (nI k) :: .ref ad :: rest)) := by
  refine va_zast S.1 S.2.1 hI.2 hI.1 hD hS q0 2 ha rfl (vp_in_nI hk hn) hdg (fun H1 locs1 hP1 hD1 hS1 => ?_)
  rw [nI_clamp (Nat.lt_trans hk hn), bI_nz, hws] at hP1
  exact kk H1 locs1 ⟨hP1, hI.2⟩ hS1
theorem ly_last {ws' : va_W} {ad n k : Nat} {f : Nat → Int64} {x : Int64} (S : CallFix p m c cc nL s args lw_tb own) (hI : PI D K ws s H) (hD : va_D A ws) (hS : va_S A H0 H locs) (q0 : Nat) (ha : ws[q0]? = some (ad, .inl (K 1, n, .inr (.inl f)))) (hk : k < n) (hn : n < 2 ^ 31) (hws : ws.set q0 (ad, .inl (K 1, n, .inr (.inl (va_up f k x)))) = ws') (hdg : decode cc pc = .ok (.lastore, 1))
    (kk : ∀ (H1 : Heap) (locs1 : List Loc), PI D K ws' s H1 → va_S A H0 H1 locs1 → W p l e R s m args below meth c H1 locs1 cells slots Q (F0 m (pc + 1) ls rest)) : W p l e R s m args below meth c H locs cells slots Q (F0 m pc ls (.long x :: .int (nI k) :: .ref ad :: rest)) := by
  refine va_last S.1 S.2.1 hI.2 hI.1 hD hS q0 1 ha rfl (vp_in_nI hk hn) hdg (fun H1 locs1 hP1 hD1 hS1 => ?_)
  rw [nI_clamp (Nat.lt_trans hk hn), updL_up, hws] at hP1
  exact kk H1 locs1 ⟨hP1, hI.2⟩ hS1
theorem ly_lald {ad n k : Nat} {f : Nat → Int64} {v : Int64} (S : CallFix p m c cc nL s args lw_tb own) (hI : PI D K ws s H) (q0 : Nat) (ha : ws[q0]? = some (ad, .inl (K 1, n, .inr (.inl f)))) (hk : k < n) (hn : n < 2 ^ 31) (hv : f k = v) (hdg : decode cc pc = .ok (.laload, 1))
    (kk : W p l e R s m args below meth c H locs cells slots Q (F0 m (pc + 1) ls (.long v :: rest))) : W p l e R s m args below meth c H locs cells slots Q (F0 m pc ls (.int (nI k) :: .ref ad :: rest)) := by
  refine va_lald S.1 S.2.1 hI.2 hI.1 q0 1 ha rfl (vp_in_nI hk hn) hdg ?_
  rw [nI_clamp (Nat.lt_trans hk hn), hv]
  exact kk
theorem ly_zald {ad n k : Nat} {f : Nat → Int32} {v : Int32} (S : CallFix p m c cc nL s args lw_tb own) (hI : PI D K ws s H) (q0 : Nat) (ha : ws[q0]? = some (ad, .inl (K 2, n, .inl f))) (hk : k < n) (hn : n < 2 ^ 31) (hv : f k = v) (hdg : decode cc pc = .ok (.baload, 1))
    (kk : W p l e R s m args below meth c H locs cells slots Q (F0 m (pc + 1) ls (.int v :: rest))) : W p l e R s m args below meth c H locs cells slots Q (F0 m pc ls (.int (nI k) :: .ref ad :: rest)) := by
  refine va_zald S.1 S.2.1 hI.2 hI.1 q0 2 ha rfl (vp_in_nI hk hn) hdg ?_
  rw [nI_clamp (Nat.lt_trans hk hn), hv]
  exact kk
theorem p8 {ws' : va_W} {ad : Nat} {fs : List Value} {v : Value} {ty : FieldType} (S : CallFix p m c cc nL s args lw_tb own) (hI : PI D K ws s H) (hD : va_D A ws) (hS : va_S A H0 H locs) (q0 : Nat) (he : ws[q0]? = some (ad, .inr (8, fs))) (k : Nat) (hk : k < 15) (hl : Cond.fieldLink own index (TX8 k).1 (TX8 k).2.1 (TX8 k).2.2.1 ∈ lw_tb) (hfin : (TX8 k).2.2.2 = false) (hd : parseFieldDescriptor (TX8 k).2.2.1 = some ty) (hn : narrow ty v = v) (hfit : fits ty v = true) (hlen : k < fs.length) (hws : ws.set q0 (ad, .inr (8, fs.set k v)) = ws') (hdg : decode cc pc = .ok (.putfield index, 3))
    (kk : ∀ (H1 : Heap) (locs1 : List Loc), PI D K ws' s H1 → va_S A H0 H1 locs1 → W p l e R s m args below meth c H1 locs1 cells slots Q (F0 m (pc + 3) ls rest)) : W p l e R s m args below meth c H locs cells slots Q (F0 m pc ls (v :: .ref ad :: rest)) := by
  refine va_put (C := RX8) (T := TX8) (N := 15) S.1 S.2.1 S.2.2.2.2 inX8 tyX8 tyX8_ok nmX8 S.2.2.2.1 hI.2 hI.1 hD hS q0 he rfl k hk (S.2.2.2.2 _ hl) (fun _ h9 => h9) hfin hd hn hfit hlen hdg (fun H1 locs1 hP1 hD1 hS1 => ?_)
  rw [hws] at hP1
  exact kk H1 locs1 ⟨hP1, hI.2⟩ hS1
theorem kVX {σ : Type} {r : σ → Option Value} {wf : σ → va_W} {post : σ → Prop} (S : CallFix p m c cc nL s args lw_tb own) (hM : Met l y (TWd y bytes maxL ret) (rmk d) (va_Pc (.ref b :: As) B) (QX D K r wf post A) 0 0 A)
    (hlink : Cond.methodLink own index y ∈ lw_tb) (hst : Cond.instanceMethod y ∈ lw_tb) (hsel : Cond.selects y.cls y y ∈ lw_tb) (hini : Cond.initialized y.cls ∈ lw_tb) (hcode : Cond.code y bytes maxL ret ∈ lw_tb)
    (hd : y.cls ≠ "java/lang/invoke/MethodHandle" ∧ y.cls ≠ "java/lang/invoke/VarHandle" ∧ (parseMethodDescriptor y.desc).map (fun d => d.parameters.length) = some As.length) (hm : maxL ≤ 21)
    (hR : RO d R cells slots) (hbl : FrameBlind (va_Pc (.ref b :: As) B)) (hB : ∀ U : State, U.heap = H → s.WarmedH U.vm → B U)
    (hrecv : ∃ cellB : Cell, H[b]? = some cellB ∧ cellB.vm.isStatics = false ∧ s.vm.findClass y.cls = some cellB.cls)
    (hS : va_S A0 H0 H locs) (hA : ∀ q, A q → A0 q) (hsz : ls.size = nL) (hstk : st = As.reverse ++ .ref b :: rest) (hW : (rest.map fun v => v.category).sum ≤ 8) (hdg : decode cc pc = .ok (.invokevirtual index, 3))
    (kk : ∀ (u : σ) (H1 : Heap) (locs1 : List Loc), post u → PI D K (wf u) s H1 → va_S A0 H0 H1 locs1 → H.size ≤ H1.size → (∀ q : Nat, q < H.size → ¬ A q → H1[q]? = H[q]?) → W p l e R s m args below meth c H1 locs1 cells slots Q (F0 m (pc + 3) ls ((r u).toList ++ rest))) : W p l e R s m args below meth c H locs cells slots Q (F0 m pc ls st) := by
  have hr2 := hR.2.1
  have hr := va_runV (locs := locs) (below := below) (e := e) (meth := meth) (cells := cells) (slots := slots) (g := F0 m pc ls st) (As := As) (rest := rest) (n := As.length) (C := y.cls) (b := b) S hM ⟨callB_of As.length S.2.2.2.2 (tw_good hcode) rfl rfl rfl (S.2.2.2.2 _ hini) (S.2.2.2.2 _ hlink) hd ⟨hR.1, by simp only [rmk]; omega⟩, S.2.2.2.2 _ hst, S.2.2.2.2 _ hsel⟩ ⟨hbl, hrecv, fun U hU hW => ⟨rfl, hB U hU hW⟩⟩ rfl rfl hsz hstk (lv_room hW) hdg ⟨hR.2.2.1, hR.2.2.2⟩
  intro T hT X
  obtain ⟨v, st₀, t, T', L, h0, X', hL, e1, e2, ⟨⟨u, hv, hp, hI1⟩, hz, hk⟩, stp⟩ := hr T hT X
  cases hv
  rw [h0] at hz hk
  obtain ⟨t2, a1, b1⟩ := kk u T'.heap (locs ++ L) hp ⟨by rw [e1]; exact hI1.1, va_K.moved (by rw [← e2]; exact X'.warmed.alike.symm) hI1.2⟩
    ⟨Nat.le_trans hS.1 (by rw [e1]; exact hz), fun q h1 h2 => by rw [e1, hk q (Nat.lt_of_lt_of_le h1 hS.1) (fun z => h2 (hA q z))]; exact hS.2.1 q h1 h2, fun q hq => by
      rcases List.mem_append.mp hq with h | h
      · exact hS.2.2 q h
      · exact hA _ (hL q h)⟩ (by rw [e1]; exact hz) (fun q h1 h2 => by rw [e1]; exact hk q h1 h2) T' rfl X'
  exact ⟨t2, stp t2 a1, b1⟩
end KW
section MS
variable {K : Nat → ClassId} {a : Nat → Nat} {w n lap : Nat} {op mu ba la en : Nat → Nat} {pr : Nat → Option Nat} {sc : MSc} {k v : Nat}
theorem ms_1 : (mW K a w n lap op mu ba la en pr sc).set 1 (a 1, .inl (K 0, 8, .inl (upd (fun i => nI (op i)) k (nI v)))) = mW K a w n lap (va_up op k v) mu ba la en pr sc := by rw [nI_up]; rfl
theorem ms_2 : (mW K a w n lap op mu ba la en pr sc).set 2 (a 2, .inl (K 0, 8, .inl (upd (fun i => nI (mu i)) k (nI v)))) = mW K a w n lap op (va_up mu k v) ba la en pr sc := by rw [nI_up]; rfl
theorem ms_3 : (mW K a w n lap op mu ba la en pr sc).set 3 (a 3, .inl (K 0, 8, .inl (upd (fun i => nI (ba i)) k (nI v)))) = mW K a w n lap op mu (va_up ba k v) la en pr sc := by rw [nI_up]; rfl
theorem ms_4 : (mW K a w n lap op mu ba la en pr sc).set 4 (a 4, .inl (K 0, 8, .inl (upd (fun i => nI (la i)) k (nI v)))) = mW K a w n lap op mu ba (va_up la k v) en pr sc := by rw [nI_up]; rfl
theorem ms_5 {q : Option Nat} (h : k ≠ 0) : (mW K a w n lap op mu ba la en pr sc).set 5 (a 5, .inl (K 0, 7, .inl (upd (pz 0 pr) k (pI q)))) = mW K a w n lap op mu ba la en (va_up pr k q) sc := by rw [pz_up h]; rfl
theorem ms_6 : (mW K a w n lap op mu ba la en pr sc).set 6 (a 6, .inl (K 0, 4, .inl (upd (fun i => nI (en i)) k (nI v)))) = mW K a w n lap op mu ba la (va_up en k v) pr sc := by rw [nI_up]; rfl
theorem ms_7 : (mW K a w n lap op mu ba la en pr sc).set 7 (a 7, .inl (K 0, 8, .inl (upd (fun i => nI (sc.1 i)) k (nI v)))) = mW K a w n lap op mu ba la en pr (va_up sc.1 k v, sc.2) := by rw [nI_up]; rfl
theorem ms_8 : (mW K a w n lap op mu ba la en pr sc).set 8 (a 8, .inl (K 0, 4096, .inl (upd (fun i => nI (sc.2.1 i)) k (nI v)))) = mW K a w n lap op mu ba la en pr (sc.1, va_up sc.2.1 k v, sc.2.2) := by rw [nI_up]; rfl
theorem ms_9 : (mW K a w n lap op mu ba la en pr sc).set 9 (a 9, .inl (K 0, 4096, .inl (upd (fun i => nI (sc.2.2.1 i)) k (nI v)))) = mW K a w n lap op mu ba la en pr (sc.1, sc.2.1, va_up sc.2.2.1 k v, sc.2.2.2) := by rw [nI_up]; rfl
theorem ms_10 {x : Int64} : (mW K a w n lap op mu ba la en pr sc).set 10 (a 10, .inl (K 1, 4096, .inr (.inl (va_up sc.2.2.2.1 k x)))) = mW K a w n lap op mu ba la en pr (sc.1, sc.2.1, sc.2.2.1, va_up sc.2.2.2.1 k x, sc.2.2.2.2) := rfl
theorem ms_11 : (mW K a w n lap op mu ba la en pr sc).set 11 (a 11, .inl (K 0, 8, .inl (upd (fun i => nI (sc.2.2.2.2.1 i)) k (nI v)))) = mW K a w n lap op mu ba la en pr (sc.1, sc.2.1, sc.2.2.1, sc.2.2.2.1, va_up sc.2.2.2.2.1 k v, sc.2.2.2.2.2) := by rw [nI_up]; rfl
theorem ms_12 {x : Bool} : (mW K a w n lap op mu ba la en pr sc).set 12 (a 12, .inl (K 2, 4096, .inl (upd (fun i => bI (sc.2.2.2.2.2 i)) k (bI x)))) = mW K a w n lap op mu ba la en pr (sc.1, sc.2.1, sc.2.2.1, sc.2.2.2.1, sc.2.2.2.2.1, va_up sc.2.2.2.2.2 k x) := by rw [bI_up]; rfl
end MS
theorem wiN {k x y : Nat} (h1 : x ≤ k) (h2 : k ≤ y) (hy : y < 2 ^ 31) : wiI (nI k) (nI x) (nI y) = true := wiI_t (by rw [nI_ltI (by omega) (by omega)]; omega) (by rw [nI_ltI (by omega) (by omega)]; omega)
theorem wiC {k n : Nat} (h1 : k < n) (hn : n < 2 ^ 31) : wiI (nI k) 0 (nI n - 1) = true := by
  have e : nI n - 1 = nI (n - 1) := by
    have : n = (n - 1) + 1 := by omega
    rw [this, nI_pred]; rfl
  rw [e, ← nI_0]
  exact wiN (by omega) (by omega) (by omega)
