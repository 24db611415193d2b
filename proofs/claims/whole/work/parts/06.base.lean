/-! my base rows: one table for all methods, contracts of readers, calls of them -/
def bI (b : Bool) : Int32 := if b then 1 else 0
def rmk (d : Nat) : Room := { frames := d, cells := 0, slots := 0, locals := 40 * d }
abbrev TWd (y : MethodName) (c : ByteArray) (n : Nat) (ret : Option FieldType) : List Cond := Cond.code y c n ret :: lw_tb
theorem tb_good : GoodIn lw_tb lw_tb := fun w hw => ⟨hw, good_of_word (List.mem_filter.mp hw).2⟩
theorem tw_good {y : MethodName} {c : ByteArray} {n : Nat} {ret : Option FieldType} (h : Cond.code y c n ret ∈ lw_tb) : GoodIn lw_tb (TWd y c n ret) := fun w hw => (List.mem_cons.mp hw).elim (fun e => e ▸ tb_good _ h) (fun q => tb_good w q)
abbrev cls : List vw_C := [(RX0, TX0, 2), (RX1, TX1, 7), (RX2, TX2, 4), (RX3, TX3, 7), (RX4, TX4, 3), (RX5, TX5, 1), (RX6, TX6, 6), (RX7, TX7, 5), (RX8, TX8, 15)]
def tyl (K : Nat → ClassId) : List (ClassId × FieldType) := [(K 0, .int), (K 1, .long), (K 2, .boolean), (K 3, .object "BondedWall$Course"), (K 4, .array .int)]
abbrev PI (D : va_G) (K : Nat → ClassId) (ws : va_W) (U : State) (H : Heap) : Prop := va_P D cls ws H ∧ va_K D cls (tyl K) U
def RO (d : Nat) (R : Room) (cells slots : Nat) : Prop := d + 1 ≤ R.frames ∧ 40 * (d + 1) ≤ R.locals ∧ cells ≤ R.cells ∧ slots ≤ R.slots
theorem rok {d d' : Nat} (h : d < d') : RO d (rmk d') 0 0 := ⟨h, Nat.mul_le_mul_left 40 h, Nat.zero_le _, Nat.zero_le _⟩
theorem inX8 : ∀ w ∈ u_ws RX8 TX8 15, w ∈ lw_tb := by decide +kernel
theorem bI_t : bI true = 1 := rfl
theorem bI_f : bI false = 0 := rfl
theorem bI_eq0 {b : Bool} : bI b = 0 ↔ b = false := by cases b <;> decide
theorem bI_eq1 {b : Bool} : bI b = 1 ↔ b = true := by cases b <;> decide
theorem bI_nar (b : Bool) : narrow .boolean (.int (bI b)) = .int (bI b) := by cases b <;> rfl
theorem mt_of {l : Launch} {y : MethodName} {cc : ByteArray} {maxL : Nat} {ret : Option FieldType} {rm : Room} {As : List Value} {B : State → Prop} {Qc : Array Value → State → Outcome → State → Prop} {mc ms : Nat} {free : Addr → Prop} (hy : plainName y.cls = true) (hlen : (lg_sl As).length ≤ maxL)
    (body : ∀ (p : Program) (e : Env) (s : State) (m : MethodId) (below : List Frame) (meth : Method) (c : Code), CallFix p m c cc maxL s As.toArray lw_tb y.cls → meth.sig.returnType = ret → meth.locks = false → B s → ∀ ls : Array Slot, lv_has ls maxL (lv_args 0 As) → W p l e rm s m As.toArray below meth c s.heap [] 0 0 (MQ below Qc As.toArray s mc ms free) (F0 m 0 ls [])) :
    Met l y (TWd y cc maxL ret) rm (va_Pc As B) Qc mc ms free := by
  refine Met.ofW (cc := cc) (maxL := maxL) (ret := ret) hy rfl ?_
  intro p e s m args below meth c s₁ Bd hml hv
  obtain ⟨rfl, hB⟩ := hv
  have hts := atoms_spec (ws := TWd y cc maxL ret) Bd.pre
  have hl := lv_entry As (n := maxL) hlen
  rw [lg_entry_eq]
  exact body p e s m below meth c ⟨Bd.exec, Bd.bytes, hml, findClass_of_methodNamed Bd.named, fun w h => hts w (List.mem_cons_of_mem _ h)⟩ Bd.returns Bd.notSynchronized hB _ hl
theorem blP {D : va_G} {K : Nat → ClassId} {ws : va_W} {As : List Value} : FrameBlind (va_Pc As (fun U => PI D K ws U U.heap)) := fun a U g mk q => ⟨q.1, q.2.1, va_K.moved (u := U) (U := U.calling g mk a) (Vm.Alike.refl U.vm) q.2.2⟩
theorem blT {As : List Value} : FrameBlind (va_Pc As (fun _ => True)) := fun _ _ _ _ q => q
theorem piU {D : va_G} {K : Nat → ClassId} {ws : va_W} {s : State} {H : Heap} (h : PI D K ws s H) : ∀ U : State, U.heap = H → s.WarmedH U.vm → PI D K ws U U.heap := fun U hU hW => ⟨by rw [hU]; exact h.1, va_K.moved hW.alike h.2⟩
section KB
variable {p : Program} {l : Launch} {e : Env} {R : Room} {s : State} {m : MethodId} {args : Array Value} {below : List Frame} {meth : Method} {c : Code} {H : Heap} {locs : List Loc} {cells slots : Nat} {Q : State → Prop}
variable {cc bytes : ByteArray} {nL maxL index pc d : Nat} {own : String} {y : MethodName} {ret : Option FieldType} {ls : Array Slot} {As rest st : List Value} {B : State → Prop} {r : Int32} {b : Addr}
theorem kS (S : CallFix p m c cc nL s args lw_tb own) (hM : Met l y (TWd y bytes maxL ret) (rmk d) (va_Pc As B) (QcRead r) 0 0 (fun _ => False))
    (hlink : Cond.methodLink own index y ∈ lw_tb) (hst : Cond.static y ∈ lw_tb) (hini : Cond.initialized y.cls ∈ lw_tb) (hcode : Cond.code y bytes maxL ret ∈ lw_tb)
    (hd : y.cls ≠ "java/lang/invoke/MethodHandle" ∧ y.cls ≠ "java/lang/invoke/VarHandle" ∧ (parseMethodDescriptor y.desc).map (fun d => d.parameters.length) = some As.length) (hm : maxL ≤ 21)
    (hR : RO d R cells slots) (hbl : FrameBlind (va_Pc As B)) (hB : ∀ U : State, U.heap = H → s.WarmedH U.vm → B U)
    (hsz : ls.size = nL) (hstk : st = As.reverse ++ rest) (hW : (rest.map fun v => v.category).sum ≤ 8) (hdg : decode cc pc = .ok (.invokestatic index, 3))
    (k : W p l e R s m args below meth c H locs cells slots Q (F0 m (pc + 3) ls (.int r :: rest))) : W p l e R s m args below meth c H locs cells slots Q (F0 m pc ls st) := by
  have hr2 := hR.2.1
  refine W.callR (r := r) (W.runS (g := F0 m pc ls st) (As := As) (rest := rest) (n := As.length) S hM ⟨callB_of As.length S.2.2.2.2 (tw_good hcode) rfl rfl rfl (S.2.2.2.2 _ hini) (S.2.2.2.2 _ hlink) hd ⟨hR.1, by simp only [rmk]; omega⟩, S.2.2.2.2 _ hst⟩ ⟨hbl, fun U hU hW => ⟨rfl, hB U hU hW⟩⟩ rfl rfl hsz hstk (lv_room hW) hdg ⟨hR.2.2.1, hR.2.2.2⟩) k
theorem kV (S : CallFix p m c cc nL s args lw_tb own) (hM : Met l y (TWd y bytes maxL ret) (rmk d) (va_Pc (.ref b :: As) B) (QcRead r) 0 0 (fun _ => False))
    (hlink : Cond.methodLink own index y ∈ lw_tb) (hst : Cond.instanceMethod y ∈ lw_tb) (hsel : Cond.selects y.cls y y ∈ lw_tb) (hini : Cond.initialized y.cls ∈ lw_tb) (hcode : Cond.code y bytes maxL ret ∈ lw_tb)
    (hd : y.cls ≠ "java/lang/invoke/MethodHandle" ∧ y.cls ≠ "java/lang/invoke/VarHandle" ∧ (parseMethodDescriptor y.desc).map (fun d => d.parameters.length) = some As.length) (hm : maxL ≤ 21)
    (hR : RO d R cells slots) (hbl : FrameBlind (va_Pc (.ref b :: As) B)) (hB : ∀ U : State, U.heap = H → s.WarmedH U.vm → B U)
    (hrecv : ∃ cellB : Cell, H[b]? = some cellB ∧ cellB.vm.isStatics = false ∧ s.vm.findClass y.cls = some cellB.cls)
    (hsz : ls.size = nL) (hstk : st = As.reverse ++ .ref b :: rest) (hW : (rest.map fun v => v.category).sum ≤ 8) (hdg : decode cc pc = .ok (.invokevirtual index, 3))
    (k : W p l e R s m args below meth c H locs cells slots Q (F0 m (pc + 3) ls (.int r :: rest))) : W p l e R s m args below meth c H locs cells slots Q (F0 m pc ls st) := by
  have hr2 := hR.2.1
  refine W.callR (r := r) (W.runV (g := F0 m pc ls st) (As := As) (rest := rest) (n := As.length) (C := y.cls) (b := b) S hM ⟨callB_of As.length S.2.2.2.2 (tw_good hcode) rfl rfl rfl (S.2.2.2.2 _ hini) (S.2.2.2.2 _ hlink) hd ⟨hR.1, by simp only [rmk]; omega⟩, S.2.2.2.2 _ hst, S.2.2.2.2 _ hsel⟩ ⟨hbl, hrecv, fun U hU hW => ⟨rfl, hB U hU hW⟩⟩ rfl rfl hsz hstk (lv_room hW) hdg ⟨hR.2.2.1, hR.2.2.2⟩) k
theorem rt_i {v : Int32} (S : CallFix p m c cc nL s args lw_tb own) (hr : meth.sig.returnType = some .int) (hlk : meth.locks = false) (h : v = r) (hdg : decode cc pc = .ok (.ireturn, 1)) :
    W p l e R s m args below meth c s.heap [] cells slots (MQ below (QcRead r) args s cells slots (fun _ => False)) (F0 m pc ls [.int v]) := W.iret S.1 S.2.1 hr (fun t ht _ => ⟨by rw [h], ht⟩) (fun _ h => by cases h) hdg hlk
theorem rt_z {v : Int32} {z : Bool} (S : CallFix p m c cc nL s args lw_tb own) (hr : meth.sig.returnType = some .boolean) (hlk : meth.locks = false) (h : v = bI z) (hdg : decode cc pc = .ok (.ireturn, 1)) :
    W p l e R s m args below meth c s.heap [] cells slots (MQ below (QcRead (bI z)) args s cells slots (fun _ => False)) (F0 m pc ls [.int v]) := by
  subst h
  exact W.zret S.1 S.2.1 hr (bI_nar z) (fun t ht _ => ⟨rfl, ht⟩) (fun _ h => by cases h) hdg hlk
theorem ly_top {x z : Int32} (h : x = z) (k : W p l e R s m args below meth c H locs cells slots Q (F0 m pc ls (.int z :: rest))) : W p l e R s m args below meth c H locs cells slots Q (F0 m pc ls (.int x :: rest)) := by rw [h]; exact k
theorem ly_topl {x z : Int64} (h : x = z) (k : W p l e R s m args below meth c H locs cells slots Q (F0 m pc ls (.long z :: rest))) : W p l e R s m args below meth c H locs cells slots Q (F0 m pc ls (.long x :: rest)) := by rw [h]; exact k
theorem g8 {D : va_G} {K : Nat → ClassId} {ws : va_W} {a : Nat} {fs : List Value} {v : Value} (S : CallFix p m c cc nL s args lw_tb own) (hI : PI D K ws s H) (q0 : Nat) (he : ws[q0]? = some (a, .inr (8, fs))) (k : Nat) (hk : k < 15) (hl : Cond.fieldLink own index (TX8 k).1 (TX8 k).2.1 (TX8 k).2.2.1 ∈ lw_tb) (hv : fs[k]? = some v) (hdg : decode cc pc = .ok (.getfield index, 3))
    (kk : W p l e R s m args below meth c H locs cells slots Q (F0 m (pc + 3) ls (v :: rest))) : W p l e R s m args below meth c H locs cells slots Q (F0 m pc ls (.ref a :: rest)) :=
  va_get (C := RX8) (T := TX8) (N := 15) S.1 S.2.1 S.2.2.2.2 inX8 S.2.2.2.1 hI.2 hI.1 q0 he rfl k hk (S.2.2.2.2 _ hl) (fun _ h9 => h9) hv hdg kk
theorem ly_iald {D : va_G} {K : Nat → ClassId} {ws : va_W} {a n k : Nat} {f : Nat → Int32} {v : Int32} (S : CallFix p m c cc nL s args lw_tb own) (hI : PI D K ws s H) (q0 : Nat) (ha : ws[q0]? = some (a, .inl (K 0, n, .inl f))) (hk : k < n) (hn : n < 2 ^ 31) (hv : f k = v) (hdg : decode cc pc = .ok (.iaload, 1))
    (kk : W p l e R s m args below meth c H locs cells slots Q (F0 m (pc + 1) ls (.int v :: rest))) : W p l e R s m args below meth c H locs cells slots Q (F0 m pc ls (.int (nI k) :: .ref a :: rest)) := by
  refine va_iald S.1 S.2.1 hI.2 hI.1 q0 0 ha rfl (vp_in_nI hk hn) hdg ?_
  rw [nI_clamp (Nat.lt_trans hk hn), hv]
  exact kk
end KB
