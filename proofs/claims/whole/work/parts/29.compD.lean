set_option maxHeartbeats 4000000 in
set_option maxRecDepth 100000 in
theorem mX4_forget (l : Launch) {D : va_G} {K : Nat → ClassId} {b : Nat → Nat} {w n lap : Nat} {op mu ba la en : Nat → Nat} {pr : Nat → Option Nat} {fr : Bool} {co : Nat → Nat → Nat} {cw cj : Nat → Int64} {cl : Nat} {rv : Int64} {rc : Nat} {pj : Nat → Nat → Nat} {pw ch : Nat → Nat} {pl lc : Nat} {tl : Nat → Nat} (hDis : Dis b 44) : Met l yX4_forget (TWd yX4_forget cX4_forget 1 none) (rmk 0) (va_Pc [.ref (b 8)] (fun U => PI D K (cW K b w n lap op mu ba la en pr fr co cw cj cl rv rc pj pw ch pl lc tl) U U.heap)) (QX D K (fun u : Unit => none) (fun u => (cW K b w n lap op mu ba la en pr false co cw cj cl rv rc pj pw ch pl lc tl)) (fun u => True) (adA b 44)) 0 0 (adA b 44) := by
  refine mt_of (by decide +kernel) (Nat.le_of_ble_eq_true rfl) ?_
  intro p e s m below meth c S hr hlk hI ls hl
  have S : CallFix p m c cX4_forget 1 s ([.ref (b 8)] : List Value).toArray lw_tb RX4 := S
  have hl : lv_has ls 1 [(0, .ref (b 8))] := hl
  have hS : va_S (adA b 44) s.heap s.heap [] := va_S.rf
  refine lv_aload_n S.1 S.2.1 dX4_forget_0 rfl (lv_at hl 0 rfl) ?_
  refine lv_iconst (v := nI 0) S.1 S.2.1 dX4_forget_1 (by decide) ?_
  refine ly_top (z := bI false) rfl ?_
  refine p4 (ws' := (cW K b w n lap op mu ba la en pr false co cw cj cl rv rc pj pw ch pl lc tl)) S hI (cD hDis) hS 8 rfl 2 (by decide) tw_157 rfl rfl (bI_nar _) (bI_fit _) (Nat.le_of_ble_eq_true rfl) rfl dX4_forget_2 (fun H locs hI hS => ?_)
  exact rw_v S hr hlk () rfl trivial hI hS dX4_forget_5
theorem kX4_forget {p : Program} {l : Launch} {e : Env} {R : Room} {s : State} {m : MethodId} {args : Array Value} {below : List Frame} {meth : Method} {c : Code} {H H0 : Heap} {locs : List Loc} {cells slots : Nat} {Q : State → Prop} {cc : ByteArray} {nL index pc : Nat} {own : String} {ls : Array Slot} {rest : List Value} {D : va_G} {K : Nat → ClassId} {b : Nat → Nat} {w n lap : Nat} {op mu ba la en : Nat → Nat} {pr : Nat → Option Nat} {fr : Bool} {co : Nat → Nat → Nat} {cw cj : Nat → Int64} {cl : Nat} {rv : Int64} {rc : Nat} {pj : Nat → Nat → Nat} {pw ch : Nat → Nat} {pl lc : Nat} {tl : Nat → Nat} (S : CallFix p m c cc nL s args lw_tb own) (hI : PI D K (cW K b w n lap op mu ba la en pr fr co cw cj cl rv rc pj pw ch pl lc tl) s H) (hS : va_S (adA b 44) H0 H locs) (hDis : Dis b 44) (hlink : Cond.methodLink own index yX4_forget ∈ lw_tb) (hR : RO 0 R cells slots) (hsz : ls.size = nL) (hW : (rest.map fun v => v.category).sum ≤ 8) (hdg : decode cc pc = .ok (.invokevirtual index, 3)) (kk : ∀ (u : Unit) (H1 : Heap) (locs1 : List Loc), (True) → PI D K (cW K b w n lap op mu ba la en pr false co cw cj cl rv rc pj pw ch pl lc tl) s H1 → va_S (adA b 44) H0 H1 locs1 → H.size ≤ H1.size → (∀ q : Nat, q < H.size → ¬ (adA b 44) q → H1[q]? = H[q]?) → W p l e R s m args below meth c H1 locs1 cells slots Q (F0 m (pc + 3) ls (rest))) : W p l e R s m args below meth c H locs cells slots Q (F0 m pc ls (.ref (b 8) :: rest)) :=
  kVX (As := []) (b := b 8) S (mX4_forget l hDis) hlink tw_261 tw_262 tw_46 tw_263 (by show _ ∧ _ ∧ _ = some 0; decide +kernel) (by decide) hR blP (piU hI) (va_recv hI.2 hI.1 (ci := 4) (q0 := 8) rfl rfl) hS (fun _ h => h) hsz rfl hW hdg kk

set_option maxHeartbeats 4000000 in
set_option maxRecDepth 100000 in
theorem mX1_forget (l : Launch) {D : va_G} {K : Nat → ClassId} {b : Nat → Nat} {w n lap : Nat} {op mu ba la en : Nat → Nat} {pr : Nat → Option Nat} {fr : Bool} {co : Nat → Nat → Nat} {cw cj : Nat → Int64} {cl : Nat} {rv : Int64} {rc : Nat} {pj : Nat → Nat → Nat} {pw ch : Nat → Nat} {pl lc : Nat} {tl : Nat → Nat} (hDis : Dis b 44) : Met l yX1_forget (TWd yX1_forget cX1_forget 1 none) (rmk 0) (va_Pc [.ref (b 10)] (fun U => PI D K (cW K b w n lap op mu ba la en pr fr co cw cj cl rv rc pj pw ch pl lc tl) U U.heap)) (QX D K (fun u : Unit => none) (fun u => (cW K b w n lap op mu ba la en pr fr co cw cj 0 rv rc pj pw ch pl lc tl)) (fun u => True) (adA b 44)) 0 0 (adA b 44) := by
  refine mt_of (by decide +kernel) (Nat.le_of_ble_eq_true rfl) ?_
  intro p e s m below meth c S hr hlk hI ls hl
  have S : CallFix p m c cX1_forget 1 s ([.ref (b 10)] : List Value).toArray lw_tb RX1 := S
  have hl : lv_has ls 1 [(0, .ref (b 10))] := hl
  have hS : va_S (adA b 44) s.heap s.heap [] := va_S.rf
  refine lv_aload_n S.1 S.2.1 dX1_forget_0 rfl (lv_at hl 0 rfl) ?_
  refine lv_iconst (v := nI 0) S.1 S.2.1 dX1_forget_1 (by decide) ?_
  refine p1 (ws' := (cW K b w n lap op mu ba la en pr fr co cw cj 0 rv rc pj pw ch pl lc tl)) S hI (cD hDis) hS 10 rfl 4 (by decide) tw_175 rfl rfl rfl rfl (Nat.le_of_ble_eq_true rfl) rfl dX1_forget_2 (fun H locs hI hS => ?_)
  exact rw_v S hr hlk () rfl trivial hI hS dX1_forget_5
theorem kX1_forget {p : Program} {l : Launch} {e : Env} {R : Room} {s : State} {m : MethodId} {args : Array Value} {below : List Frame} {meth : Method} {c : Code} {H H0 : Heap} {locs : List Loc} {cells slots : Nat} {Q : State → Prop} {cc : ByteArray} {nL index pc : Nat} {own : String} {ls : Array Slot} {rest : List Value} {D : va_G} {K : Nat → ClassId} {b : Nat → Nat} {w n lap : Nat} {op mu ba la en : Nat → Nat} {pr : Nat → Option Nat} {fr : Bool} {co : Nat → Nat → Nat} {cw cj : Nat → Int64} {cl : Nat} {rv : Int64} {rc : Nat} {pj : Nat → Nat → Nat} {pw ch : Nat → Nat} {pl lc : Nat} {tl : Nat → Nat} (S : CallFix p m c cc nL s args lw_tb own) (hI : PI D K (cW K b w n lap op mu ba la en pr fr co cw cj cl rv rc pj pw ch pl lc tl) s H) (hS : va_S (adA b 44) H0 H locs) (hDis : Dis b 44) (hlink : Cond.methodLink own index yX1_forget ∈ lw_tb) (hR : RO 0 R cells slots) (hsz : ls.size = nL) (hW : (rest.map fun v => v.category).sum ≤ 8) (hdg : decode cc pc = .ok (.invokevirtual index, 3)) (kk : ∀ (u : Unit) (H1 : Heap) (locs1 : List Loc), (True) → PI D K (cW K b w n lap op mu ba la en pr fr co cw cj 0 rv rc pj pw ch pl lc tl) s H1 → va_S (adA b 44) H0 H1 locs1 → H.size ≤ H1.size → (∀ q : Nat, q < H.size → ¬ (adA b 44) q → H1[q]? = H[q]?) → W p l e R s m args below meth c H1 locs1 cells slots Q (F0 m (pc + 3) ls (rest))) : W p l e R s m args below meth c H locs cells slots Q (F0 m pc ls (.ref (b 10) :: rest)) :=
  kVX (As := []) (b := b 10) S (mX1_forget l hDis) hlink tw_265 tw_266 tw_47 tw_267 (by show _ ∧ _ ∧ _ = some 0; decide +kernel) (by decide) hR blP (piU hI) (va_recv hI.2 hI.1 (ci := 1) (q0 := 10) rfl rfl) hS (fun _ h => h) hsz rfl hW hdg kk

set_option maxHeartbeats 4000000 in
set_option maxRecDepth 100000 in
theorem mX3_forget (l : Launch) {D : va_G} {K : Nat → ClassId} {b : Nat → Nat} {w n lap : Nat} {op mu ba la en : Nat → Nat} {pr : Nat → Option Nat} {fr : Bool} {co : Nat → Nat → Nat} {cw cj : Nat → Int64} {cl : Nat} {rv : Int64} {rc : Nat} {pj : Nat → Nat → Nat} {pw ch : Nat → Nat} {pl lc : Nat} {tl : Nat → Nat} (hDis : Dis b 44) : Met l yX3_forget (TWd yX3_forget cX3_forget 1 none) (rmk 0) (va_Pc [.ref (b 13)] (fun U => PI D K (cW K b w n lap op mu ba la en pr fr co cw cj cl rv rc pj pw ch pl lc tl) U U.heap)) (QX D K (fun u : Unit => none) (fun u => (cW K b w n lap op mu ba la en pr fr co cw cj cl rv rc pj pw ch 0 lc tl)) (fun u => True) (adA b 44)) 0 0 (adA b 44) := by
  refine mt_of (by decide +kernel) (Nat.le_of_ble_eq_true rfl) ?_
  intro p e s m below meth c S hr hlk hI ls hl
  have S : CallFix p m c cX3_forget 1 s ([.ref (b 13)] : List Value).toArray lw_tb RX3 := S
  have hl : lv_has ls 1 [(0, .ref (b 13))] := hl
  have hS : va_S (adA b 44) s.heap s.heap [] := va_S.rf
  refine lv_aload_n S.1 S.2.1 dX3_forget_0 rfl (lv_at hl 0 rfl) ?_
  refine lv_iconst (v := nI 0) S.1 S.2.1 dX3_forget_1 (by decide) ?_
  refine p3 (ws' := (cW K b w n lap op mu ba la en pr fr co cw cj cl rv rc pj pw ch 0 lc tl)) S hI (cD hDis) hS 13 rfl 5 (by decide) tw_208 rfl rfl rfl rfl (Nat.le_of_ble_eq_true rfl) rfl dX3_forget_2 (fun H locs hI hS => ?_)
  exact rw_v S hr hlk () rfl trivial hI hS dX3_forget_5
theorem kX3_forget {p : Program} {l : Launch} {e : Env} {R : Room} {s : State} {m : MethodId} {args : Array Value} {below : List Frame} {meth : Method} {c : Code} {H H0 : Heap} {locs : List Loc} {cells slots : Nat} {Q : State → Prop} {cc : ByteArray} {nL index pc : Nat} {own : String} {ls : Array Slot} {rest : List Value} {D : va_G} {K : Nat → ClassId} {b : Nat → Nat} {w n lap : Nat} {op mu ba la en : Nat → Nat} {pr : Nat → Option Nat} {fr : Bool} {co : Nat → Nat → Nat} {cw cj : Nat → Int64} {cl : Nat} {rv : Int64} {rc : Nat} {pj : Nat → Nat → Nat} {pw ch : Nat → Nat} {pl lc : Nat} {tl : Nat → Nat} (S : CallFix p m c cc nL s args lw_tb own) (hI : PI D K (cW K b w n lap op mu ba la en pr fr co cw cj cl rv rc pj pw ch pl lc tl) s H) (hS : va_S (adA b 44) H0 H locs) (hDis : Dis b 44) (hlink : Cond.methodLink own index yX3_forget ∈ lw_tb) (hR : RO 0 R cells slots) (hsz : ls.size = nL) (hW : (rest.map fun v => v.category).sum ≤ 8) (hdg : decode cc pc = .ok (.invokevirtual index, 3)) (kk : ∀ (u : Unit) (H1 : Heap) (locs1 : List Loc), (True) → PI D K (cW K b w n lap op mu ba la en pr fr co cw cj cl rv rc pj pw ch 0 lc tl) s H1 → va_S (adA b 44) H0 H1 locs1 → H.size ≤ H1.size → (∀ q : Nat, q < H.size → ¬ (adA b 44) q → H1[q]? = H[q]?) → W p l e R s m args below meth c H1 locs1 cells slots Q (F0 m (pc + 3) ls (rest))) : W p l e R s m args below meth c H locs cells slots Q (F0 m pc ls (.ref (b 13) :: rest)) :=
  kVX (As := []) (b := b 13) S (mX3_forget l hDis) hlink tw_269 tw_270 tw_48 tw_271 (by show _ ∧ _ ∧ _ = some 0; decide +kernel) (by decide) hR blP (piU hI) (va_recv hI.2 hI.1 (ci := 3) (q0 := 13) rfl rfl) hS (fun _ h => h) hsz rfl hW hdg kk

set_option maxHeartbeats 4000000 in
set_option maxRecDepth 100000 in
theorem mX4_costOf (l : Launch) {D : va_G} {K : Nat → ClassId} {b : Nat → Nat} {w n lap : Nat} {op mu ba la en : Nat → Nat} {pr : Nat → Option Nat} {fr : Bool} {co : Nat → Nat → Nat} {cw cj : Nat → Int64} {cl : Nat} {rv : Int64} {rc : Nat} {pj : Nat → Nat → Nat} {pw ch : Nat → Nat} {pl lc : Nat} {tl : Nat → Nat} {ci : Nat} {i : Nat} (hG : GOK w n lap op mu ba la en pr) (hc : ci < 8) (hi : i < 512) (hCO : COK co) : Met l yX4_costOf (TWd yX4_costOf cX4_costOf 4 (some .int)) (rmk 0) (va_Pc [.ref (b 8), .int (nI ci), .int (nI i)] (fun U => PI D K (cW K b w n lap op mu ba la en pr fr co cw cj cl rv rc pj pw ch pl lc tl) U U.heap)) (QcRead (nI (co ci i))) 0 0 (fun _ => False) := by
  refine mt_of (by decide +kernel) (Nat.le_of_ble_eq_true rfl) ?_
  intro p e s m below meth c S hr hlk hI ls hl
  have S : CallFix p m c cX4_costOf 4 s ([.ref (b 8), .int (nI ci), .int (nI i)] : List Value).toArray lw_tb RX4 := S
  have hl : lv_has ls 4 [(0, .ref (b 8)), (1, .int (nI ci)), (2, .int (nI i))] := hl
  obtain ⟨gw1, gw2, gn, gl1, gl2, gop, gmu, gba, gla, gen, gpr, gop2, gmu2, gba2, gla2, gme, gbe, gle, gee⟩ := id hG
  have o1 := hCO ci i
  refine lv_iload_n S.1 S.2.1 dX4_costOf_0 rfl (lv_at hl 1 rfl) ?_
  refine ly_iflt (tgt := 28) S (fun q => (nI_n1 (by omega) q : False)) (fun q => nI_n2 q) dX4_costOf_1 (by decide) (fun h1 => ?_) (fun h1 => ?_)
  · skip
    exact h1.elim
  · skip
    refine lv_iload_n S.1 S.2.1 dX4_costOf_4 rfl (lv_at hl 1 rfl) ?_
    refine lv_aload_n S.1 S.2.1 dX4_costOf_5 rfl (lv_at hl 0 rfl) ?_
    refine g4 S hI 8 rfl 1 (by decide) tw_156 rfl dX4_costOf_6 ?_
    refine ly_alen (t0 := 4) (v := nI 8) S hI 9 rfl rfl rfl dX4_costOf_9 ?_
    refine ly_cmge (tgt := 28) S (nI_le1 (by omega) (by omega)) (nI_le2 (by omega) (by omega)) dX4_costOf_10 (by decide) (fun h2 => ?_) (fun h2 => ?_)
    · skip
      exact absurd h2 (by omega)
    · skip
      refine lv_iload_n S.1 S.2.1 dX4_costOf_13 rfl (lv_at hl 2 rfl) ?_
      refine ly_iflt (tgt := 28) S (fun q => (nI_n1 (by omega) q : False)) (fun q => nI_n2 q) dX4_costOf_14 (by decide) (fun h3 => ?_) (fun h3 => ?_)
      · skip
        exact h3.elim
      · skip
        refine lv_iload_n S.1 S.2.1 dX4_costOf_17 rfl (lv_at hl 2 rfl) ?_
        refine lv_sipush (v := nI 512) S.1 S.2.1 dX4_costOf_18 (by decide) ?_
        refine ly_cmge (tgt := 28) S (nI_le1 (by omega) (by omega)) (nI_le2 (by omega) (by omega)) dX4_costOf_21 (by decide) (fun h4 => ?_) (fun h4 => ?_)
        · skip
          exact absurd h4 (by omega)
        · skip
          refine lv_iconst (v := nI 1) S.1 S.2.1 dX4_costOf_24 (by decide) ?_
          refine lv_goto (tgt := 29) S.1 S.2.1 dX4_costOf_25 (by decide) ?_
          refine lv_istore_n (lv' := [(3, .int (nI 1)), (0, .ref (b 8)), (1, .int (nI ci)), (2, .int (nI i))]) S.1 S.2.1 dX4_costOf_29 rfl hl (by decide) rfl (fun ls hl => ?_)
          refine lv_iload_n S.1 S.2.1 dX4_costOf_30 rfl (lv_at hl 0 rfl) ?_
          refine ly_ifeq (tgt := 45) S (nI_z1 (by omega)) (nI_z2 (by omega)) dX4_costOf_31 (by decide) (fun h5 => ?_) (fun h5 => ?_)
          · skip
            exact absurd h5 (by decide)
          · skip
            refine lv_aload_n S.1 S.2.1 dX4_costOf_34 rfl (lv_at hl 1 rfl) ?_
            refine g4 S hI 8 rfl 1 (by decide) tw_156 rfl dX4_costOf_35 ?_
            refine lv_iload_n S.1 S.2.1 dX4_costOf_38 rfl (lv_at hl 2 rfl) ?_
            refine ly_aald (t0 := 4) (v := b (28 + ci)) S hI 9 rfl rfl rfl (by omega) (by decide) rfl dX4_costOf_39 ?_
            refine lv_iload_n S.1 S.2.1 dX4_costOf_40 rfl (lv_at hl 3 rfl) ?_
            refine ly_iald (v := (nI (co ci i))) S hI (28 + ci) (cw_co (by omega)) (by omega) (by decide) rfl dX4_costOf_41 ?_
            refine lv_goto (tgt := 47) S.1 S.2.1 dX4_costOf_42 (by decide) ?_
            exact rt_i S hr hlk rfl dX4_costOf_47
theorem kX4_costOf {p : Program} {l : Launch} {e : Env} {R : Room} {s : State} {m : MethodId} {args : Array Value} {below : List Frame} {meth : Method} {c : Code} {H : Heap} {locs : List Loc} {cells slots : Nat} {Q : State → Prop} {cc : ByteArray} {nL index pc : Nat} {own : String} {ls : Array Slot} {rest : List Value} {D : va_G} {K : Nat → ClassId} {b : Nat → Nat} {w n lap : Nat} {op mu ba la en : Nat → Nat} {pr : Nat → Option Nat} {fr : Bool} {co : Nat → Nat → Nat} {cw cj : Nat → Int64} {cl : Nat} {rv : Int64} {rc : Nat} {pj : Nat → Nat → Nat} {pw ch : Nat → Nat} {pl lc : Nat} {tl : Nat → Nat} {ci : Nat} {i : Nat} (S : CallFix p m c cc nL s args lw_tb own) (hI : PI D K (cW K b w n lap op mu ba la en pr fr co cw cj cl rv rc pj pw ch pl lc tl) s H) (hG : GOK w n lap op mu ba la en pr) (hc : ci < 8) (hi : i < 512) (hCO : COK co) (hlink : Cond.methodLink own index yX4_costOf ∈ lw_tb) (hR : RO 0 R cells slots) (hsz : ls.size = nL) (hW : (rest.map fun v => v.category).sum ≤ 8) (hdg : decode cc pc = .ok (.invokevirtual index, 3)) (kk : W p l e R s m args below meth c H locs cells slots Q (F0 m (pc + 3) ls (.int (nI (co ci i)) :: rest))) : W p l e R s m args below meth c H locs cells slots Q (F0 m pc ls (.int (nI i) :: .int (nI ci) :: .ref (b 8) :: rest)) :=
  kV (As := [.int (nI ci), .int (nI i)]) (b := b 8) S (mX4_costOf l hG hc hi hCO) hlink tw_422 tw_423 tw_46 tw_424 (by show _ ∧ _ ∧ _ = some 2; decide +kernel) (by decide) hR blP (piU hI) (va_recv hI.2 hI.1 (ci := 4) (q0 := 8) rfl rfl) hsz rfl hW hdg kk

set_option maxHeartbeats 4000000 in
set_option maxRecDepth 100000 in
theorem mX4_apartFrom (l : Launch) {D : va_G} {K : Nat → ClassId} {b : Nat → Nat} {w n lap : Nat} {op mu ba la en : Nat → Nat} {pr : Nat → Option Nat} {fr : Bool} {co : Nat → Nat → Nat} {cw cj : Nat → Int64} {cl : Nat} {rv : Int64} {rc : Nat} {pj : Nat → Nat → Nat} {pw ch : Nat → Nat} {pl lc : Nat} {tl : Nat → Nat} {i : Nat} {z : Nat} (hG : GOK w n lap op mu ba la en pr) (hi : i < 512) (hz1 : 1 ≤ z) (hz2 : z ≤ 3) : Met l yX4_apartFrom (TWd yX4_apartFrom cX4_apartFrom 3 (some .int)) (rmk 2) (va_Pc [.ref (b 8), .int (nI i), .int (nI z)] (fun U => PI D K (cW K b w n lap op mu ba la en pr fr co cw cj cl rv rc pj pw ch pl lc tl) U U.heap)) (QcRead (nI (apF w i z))) 0 0 (fun _ => False) := by
  refine mt_of (by decide +kernel) (Nat.le_of_ble_eq_true rfl) ?_
  intro p e s m below meth c S hr hlk hI ls hl
  have S : CallFix p m c cX4_apartFrom 3 s ([.ref (b 8), .int (nI i), .int (nI z)] : List Value).toArray lw_tb RX4 := S
  have hl : lv_has ls 3 [(0, .ref (b 8)), (1, .int (nI i)), (2, .int (nI z))] := hl
  obtain ⟨gw1, gw2, gn, gl1, gl2, gop, gmu, gba, gla, gen, gpr, gop2, gmu2, gba2, gla2, gme, gbe, gle, gee⟩ := id hG
  have sw1 : 1 <<< (w - 1) = 2 ^ (w - 1) := Nat.one_shiftLeft _
  have pw1 : 2 ^ (w - 1) ≤ 2 ^ 9 := Nat.pow_le_pow_right (by decide) (by omega)
  have pw2 : 2 ^ (w - 1) ≤ 512 := pw1
  have pw6 : 2 ^ 1 ≤ 2 ^ (w - 1) := Nat.pow_le_pow_right (by decide) (by omega)
  have pw7 : 2 ≤ 2 ^ (w - 1) := pw6
  refine lv_iload_n S.1 S.2.1 dX4_apartFrom_0 rfl (lv_at hl 1 rfl) ?_
  refine lv_iload_n S.1 S.2.1 dX4_apartFrom_1 rfl (lv_at hl 2 rfl) ?_
  refine kX6_near S (by omega) (by omega) (by omega) tw_452 (rok (by decide)) hl.1 (Nat.le_of_ble_eq_true rfl) dX4_apartFrom_2 ?_
  have b1 : arG i z < 4096 := arG_lt (by omega) _ (by omega)
  refine lv_iconst (v := (-1)) S.1 S.2.1 dX4_apartFrom_5 (by decide) ?_
  refine lv_ixor S.1 S.2.1 dX4_apartFrom_6 ?_
  refine lv_aload_n S.1 S.2.1 dX4_apartFrom_7 rfl (lv_at hl 0 rfl) ?_
  refine g4 S hI 8 rfl 0 (by decide) tw_155 rfl dX4_apartFrom_8 ?_
  refine kX6_sets S hI hG tw_416 (rok (by decide)) hl.1 (Nat.le_of_ble_eq_true rfl) dX4_apartFrom_11 ?_
  have b2 : 2 ^ (w - 1) ≤ 512 := set_le gw2
  have b3 : 2 ≤ 2 ^ (w - 1) := set_ge gw1
  refine lv_iconst (v := nI 1) S.1 S.2.1 dX4_apartFrom_14 (by decide) ?_
  refine lv_isub S.1 S.2.1 dX4_apartFrom_15 ?_
  refine ly_top (z := nI ((2 ^ (w - 1)) - 1)) (pk_sub (by omega)) ?_
  refine lv_iand S.1 S.2.1 dX4_apartFrom_16 ?_
  refine ly_top (z := (nI (apF w i z))) (by rw [Int32.and_comm]; exact nI_andn (by omega) (by omega)) ?_
  exact rt_i S hr hlk rfl dX4_apartFrom_17
theorem kX4_apartFrom {p : Program} {l : Launch} {e : Env} {R : Room} {s : State} {m : MethodId} {args : Array Value} {below : List Frame} {meth : Method} {c : Code} {H : Heap} {locs : List Loc} {cells slots : Nat} {Q : State → Prop} {cc : ByteArray} {nL index pc : Nat} {own : String} {ls : Array Slot} {rest : List Value} {D : va_G} {K : Nat → ClassId} {b : Nat → Nat} {w n lap : Nat} {op mu ba la en : Nat → Nat} {pr : Nat → Option Nat} {fr : Bool} {co : Nat → Nat → Nat} {cw cj : Nat → Int64} {cl : Nat} {rv : Int64} {rc : Nat} {pj : Nat → Nat → Nat} {pw ch : Nat → Nat} {pl lc : Nat} {tl : Nat → Nat} {i : Nat} {z : Nat} (S : CallFix p m c cc nL s args lw_tb own) (hI : PI D K (cW K b w n lap op mu ba la en pr fr co cw cj cl rv rc pj pw ch pl lc tl) s H) (hG : GOK w n lap op mu ba la en pr) (hi : i < 512) (hz1 : 1 ≤ z) (hz2 : z ≤ 3) (hlink : Cond.methodLink own index yX4_apartFrom ∈ lw_tb) (hR : RO 2 R cells slots) (hsz : ls.size = nL) (hW : (rest.map fun v => v.category).sum ≤ 8) (hdg : decode cc pc = .ok (.invokevirtual index, 3)) (kk : W p l e R s m args below meth c H locs cells slots Q (F0 m (pc + 3) ls (.int (nI (apF w i z)) :: rest))) : W p l e R s m args below meth c H locs cells slots Q (F0 m pc ls (.int (nI z) :: .int (nI i) :: .ref (b 8) :: rest)) :=
  kV (As := [.int (nI i), .int (nI z)]) (b := b 8) S (mX4_apartFrom l hG hi hz1 hz2) hlink tw_449 tw_450 tw_46 tw_451 (by show _ ∧ _ ∧ _ = some 2; decide +kernel) (by decide) hR blP (piU hI) (va_recv hI.2 hI.1 (ci := 4) (q0 := 8) rfl rfl) hsz rfl hW hdg kk

set_option maxHeartbeats 4000000 in
set_option maxRecDepth 100000 in
theorem mX4_sumLeftOfHighest (l : Launch) {D : va_G} {K : Nat → ClassId} {b : Nat → Nat} {w n lap : Nat} {op mu ba la en : Nat → Nat} {pr : Nat → Option Nat} {fr : Bool} {co : Nat → Nat → Nat} {cw cj : Nat → Int64} {cl : Nat} {rv : Int64} {rc : Nat} {pj : Nat → Nat → Nat} {pw ch : Nat → Nat} {pl lc : Nat} {tl : Nat → Nat} {ci : Nat} (hDis : Dis b 44) (hG : GOK w n lap op mu ba la en pr) (hc : ci < n) (hCO : COK co) : Met l yX4_sumLeftOfHighest (TWd yX4_sumLeftOfHighest cX4_sumLeftOfHighest 8 none) (rmk 3) (va_Pc [.ref (b 8), .int (nI ci), .ref (b (28 + ci))] (fun U => PI D K (cW K b w n lap op mu ba la en pr fr co cw cj cl rv rc pj pw ch pl lc tl) U U.heap)) (QX D K (fun u : Nat → Nat → Nat => none) (fun u => (cW K b w n lap op mu ba la en pr fr u cw cj cl rv rc pj pw ch pl lc tl)) (fun u => COt ci co u ∧ ∀ i, i < 2 ^ (w - 1) → u ci i = slF pr w (op ci) (bl op ci) (en (ci % 2 * 2)) (en (ci % 2 * 2 + 1)) i) (adA b 44)) 0 0 (adA b 44) := by
  refine mt_of (by decide +kernel) (Nat.le_of_ble_eq_true rfl) ?_
  intro p e s m below meth c S hr hlk hI ls hl
  have S : CallFix p m c cX4_sumLeftOfHighest 8 s ([.ref (b 8), .int (nI ci), .ref (b (28 + ci))] : List Value).toArray lw_tb RX4 := S
  have hl : lv_has ls 8 [(0, .ref (b 8)), (1, .int (nI ci)), (2, .ref (b (28 + ci)))] := hl
  have hS : va_S (adA b 44) s.heap s.heap [] := va_S.rf
  obtain ⟨gw1, gw2, gn, gl1, gl2, gop, gmu, gba, gla, gen, gpr, gop2, gmu2, gba2, gla2, gme, gbe, gle, gee⟩ := id hG
  have sw1 : 1 <<< (w - 1) = 2 ^ (w - 1) := Nat.one_shiftLeft _
  have pw1 : 2 ^ (w - 1) ≤ 2 ^ 9 := Nat.pow_le_pow_right (by decide) (by omega)
  have pw2 : 2 ^ (w - 1) ≤ 512 := pw1
  have pw6 : 2 ^ 1 ≤ 2 ^ (w - 1) := Nat.pow_le_pow_right (by decide) (by omega)
  have pw7 : 2 ≤ 2 ^ (w - 1) := pw6
  refine lv_aload_n S.1 S.2.1 dX4_sumLeftOfHighest_0 rfl (lv_at hl 2 rfl) ?_
  refine lv_iconst (v := nI 0) S.1 S.2.1 dX4_sumLeftOfHighest_1 (by decide) ?_
  refine lv_iconst (v := nI 0) S.1 S.2.1 dX4_sumLeftOfHighest_2 (by decide) ?_
  refine ly_iast (ws' := (cW K b w n lap op mu ba la en pr fr (va_up co ci (va_up (co ci) 0 0)) cw cj cl rv rc pj pw ch pl lc tl)) S hI (cD hDis) hS (28 + ci) (cw_co (by omega)) (by omega) (by decide) (cs_co (by omega)) dX4_sumLeftOfHighest_3 (fun H locs hI hS => ?_)
  refine lv_iconst (v := nI 1) S.1 S.2.1 dX4_sumLeftOfHighest_4 (by decide) ?_
  refine lv_istore_n (lv' := [(3, .int (nI 1)), (0, .ref (b 8)), (1, .int (nI ci)), (2, .ref (b (28 + ci)))]) S.1 S.2.1 dX4_sumLeftOfHighest_5 rfl hl (by decide) rfl (fun ls hl => ?_)
  have L6 : ∀ (f6 : Nat) (h : Nat) (t : Nat → Nat → Nat) (H : Heap) (locs : List Loc), (1 ≤ h) → (h ≤ w) → (COt ci co t) → (∀ i, i < 2 ^ (h - 1) → t ci i = slF pr w (op ci) (bl op ci) (en (ci % 2 * 2)) (en (ci % 2 * 2 + 1)) i) → (PI D K (cW K b w n lap op mu ba la en pr fr t cw cj cl rv rc pj pw ch pl lc tl) s H) → (va_S (adA b 44) s.heap H locs) → w - h < f6 → ∀ (ls : Array Slot), lv_has ls 8 [(0, .ref (b 8)), (1, .int (nI ci)), (2, .ref (b (28 + ci))), (3, .int (nI h))] → W p l e (rmk 3) s m ([.ref (b 8), .int (nI ci), .ref (b (28 + ci))] : List Value).toArray below meth c H locs 0 0 (MQ below (QX D K (fun u : Nat → Nat → Nat => none) (fun u => (cW K b w n lap op mu ba la en pr fr u cw cj cl rv rc pj pw ch pl lc tl)) (fun u => COt ci co u ∧ ∀ i, i < 2 ^ (w - 1) → u ci i = slF pr w (op ci) (bl op ci) (en (ci % 2 * 2)) (en (ci % 2 * 2 + 1)) i) (adA b 44)) ([.ref (b 8), .int (nI ci), .ref (b (28 + ci))] : List Value).toArray s 0 0 (adA b 44)) (F0 m 6 ls []) := by
    intro f6
    induction f6 with
    | zero =>
      intro h t H locs i1 i2 i3 i4 hI hS hm
      exact absurd hm (Nat.not_lt_zero _)
    | succ f6 ih6 =>
      intro h t H locs i1 i2 i3 i4 hI hS hm6 ls hl
      have ph : 2 ^ (h - 1) ≤ 2 ^ 9 := Nat.pow_le_pow_right (by decide) (by omega)
      have ef : fwF h = 2 ^ (h - 1) := by conv => (lhs; rw [show h = (h - 1) + 1 by omega, fwF_s])
      refine lv_iload_n S.1 S.2.1 dX4_sumLeftOfHighest_6 rfl (lv_at hl 3 rfl) ?_
      refine lv_aload_n S.1 S.2.1 dX4_sumLeftOfHighest_7 rfl (lv_at hl 0 rfl) ?_
      refine g4 S hI 8 rfl 0 (by decide) tw_155 rfl dX4_sumLeftOfHighest_8 ?_
      refine g6 S hI 1 rfl 3 (by decide) tw_127 rfl dX4_sumLeftOfHighest_11 ?_
      refine ly_cmge (tgt := 111) S (nI_le1 (by omega) (by omega)) (nI_le2 (by omega) (by omega)) dX4_sumLeftOfHighest_14 (by decide) (fun h1 => ?_) (fun h1 => ?_)
      · skip
        exact rw_v S hr hlk t rfl ⟨i3, by rw [show w - 1 = h - 1 by omega]; exact i4⟩ hI hS dX4_sumLeftOfHighest_111
      · skip
        have ph8 : 2 ^ (h - 1) ≤ 2 ^ 8 := Nat.pow_le_pow_right (by decide) (by omega)
        refine lv_iload_n S.1 S.2.1 dX4_sumLeftOfHighest_17 rfl (lv_at hl 3 rfl) ?_
        refine kX4_firstWith S (by omega) tw_376 (rok (by decide)) hl.1 (Nat.le_of_ble_eq_true rfl) dX4_sumLeftOfHighest_18 ?_
        have b2 : fwF h ≤ 512 := fwF_le (by omega)
        refine lv_istore (lv' := [(4, .int (nI (fwF h))), (0, .ref (b 8)), (1, .int (nI ci)), (2, .ref (b (28 + ci))), (3, .int (nI h))]) S.1 S.2.1 dX4_sumLeftOfHighest_21 hl (by decide) rfl (fun ls hl => ?_)
        refine lv_iconst (v := nI 0) S.1 S.2.1 dX4_sumLeftOfHighest_23 (by decide) ?_
        refine lv_istore (lv' := [(5, .int (nI 0)), (4, .int (nI (fwF h))), (0, .ref (b 8)), (1, .int (nI ci)), (2, .ref (b (28 + ci))), (3, .int (nI h))]) S.1 S.2.1 dX4_sumLeftOfHighest_24 hl (by decide) rfl (fun ls hl => ?_)
        have L26 : ∀ (f26 : Nat) (lw : Nat) (t2 : Nat → Nat → Nat) (H : Heap) (locs : List Loc), (lw ≤ h) → (COt ci co t2) → (∀ i, i < 2 ^ (h - 1) → t2 ci i = slF pr w (op ci) (bl op ci) (en (ci % 2 * 2)) (en (ci % 2 * 2 + 1)) i) → (∀ i, i < fwF lw → t2 ci (i + 2 ^ (h - 1)) = slF pr w (op ci) (bl op ci) (en (ci % 2 * 2)) (en (ci % 2 * 2 + 1)) (i + 2 ^ (h - 1))) → (PI D K (cW K b w n lap op mu ba la en pr fr t2 cw cj cl rv rc pj pw ch pl lc tl) s H) → (va_S (adA b 44) s.heap H locs) → h - lw < f26 → ∀ (ls : Array Slot), lv_has ls 8 [(0, .ref (b 8)), (1, .int (nI ci)), (2, .ref (b (28 + ci))), (3, .int (nI h)), (4, .int (nI (fwF h))), (5, .int (nI lw))] → W p l e (rmk 3) s m ([.ref (b 8), .int (nI ci), .ref (b (28 + ci))] : List Value).toArray below meth c H locs 0 0 (MQ below (QX D K (fun u : Nat → Nat → Nat => none) (fun u => (cW K b w n lap op mu ba la en pr fr u cw cj cl rv rc pj pw ch pl lc tl)) (fun u => COt ci co u ∧ ∀ i, i < 2 ^ (w - 1) → u ci i = slF pr w (op ci) (bl op ci) (en (ci % 2 * 2)) (en (ci % 2 * 2 + 1)) i) (adA b 44)) ([.ref (b 8), .int (nI ci), .ref (b (28 + ci))] : List Value).toArray s 0 0 (adA b 44)) (F0 m 26 ls []) := by
          intro f26
          induction f26 with
          | zero =>
            intro lw t2 H locs j2 j3 j4 j5 hI hS hm
            exact absurd hm (Nat.not_lt_zero _)
          | succ f26 ih26 =>
            intro lw t2 H locs j2 j3 j4 j5 hI hS hm26 ls hl
            refine lv_iload S.1 S.2.1 dX4_sumLeftOfHighest_26 (lv_at hl 5 rfl) ?_
            refine lv_iload_n S.1 S.2.1 dX4_sumLeftOfHighest_28 rfl (lv_at hl 3 rfl) ?_
            refine ly_cmge (tgt := 105) S (nI_le1 (by omega) (by omega)) (nI_le2 (by omega) (by omega)) dX4_sumLeftOfHighest_29 (by decide) (fun h3 => ?_) (fun h3 => ?_)
            · skip
              refine lv_iinc (v := nI (h + 1)) (lv' := [(3, .int (nI (h + 1))), (0, .ref (b 8)), (1, .int (nI ci)), (2, .ref (b (28 + ci))), (4, .int (nI (fwF h))), (5, .int (nI lw))]) S.1 S.2.1 dX4_sumLeftOfHighest_105 hl (k := 3) rfl (nJ_in _ _) (by decide) rfl (fun ls hl => ?_)
              refine lv_goto (tgt := 6) S.1 S.2.1 dX4_sumLeftOfHighest_108 (by decide) ?_
              exact ih6 (h + 1) t2 _ _ (by omega) (by omega) j3 (sl_hi (by omega) j4 j5 (by omega)) hI hS (by omega) _ (lv_sub hl [1, 2, 3, 0] rfl)
            · skip
              have fm1 := fwF_mono (show lw + 1 ≤ h by omega)
              have fm0 := fwF_mono (show lw ≤ lw + 1 by omega)
              refine lv_aload_n S.1 S.2.1 dX4_sumLeftOfHighest_32 rfl (lv_at hl 0 rfl) ?_
              refine g4 S hI 8 rfl 0 (by decide) tw_155 rfl dX4_sumLeftOfHighest_33 ?_
              refine lv_iload_n S.1 S.2.1 dX4_sumLeftOfHighest_36 rfl (lv_at hl 1 rfl) ?_
              refine lv_iload S.1 S.2.1 dX4_sumLeftOfHighest_37 (lv_at hl 5 rfl) ?_
              refine lv_iload_n S.1 S.2.1 dX4_sumLeftOfHighest_39 rfl (lv_at hl 3 rfl) ?_
              refine kX6_costBetween S hI hG (by omega) (by omega) (by omega) tw_379 (rok (by decide)) hl.1 (Nat.le_of_ble_eq_true rfl) dX4_sumLeftOfHighest_40 ?_
              have b4 : cbF pr w (op ci) (bl op ci) (en (ci % 2 * 2)) (en (ci % 2 * 2 + 1)) lw h ≤ 1000000 := Nat.min_le_left _ _
              refine lv_istore (lv' := [(6, .int (nI (cbF pr w (op ci) (bl op ci) (en (ci % 2 * 2)) (en (ci % 2 * 2 + 1)) lw h))), (0, .ref (b 8)), (1, .int (nI ci)), (2, .ref (b (28 + ci))), (3, .int (nI h)), (4, .int (nI (fwF h))), (5, .int (nI lw))]) S.1 S.2.1 dX4_sumLeftOfHighest_43 hl (by decide) rfl (fun ls hl => ?_)
              refine lv_iload S.1 S.2.1 dX4_sumLeftOfHighest_45 (lv_at hl 6 rfl) ?_
              refine kX4_firstWith S (by omega) tw_376 (rok (by decide)) hl.1 (Nat.le_of_ble_eq_true rfl) dX4_sumLeftOfHighest_47 ?_
              have b5 : fwF lw ≤ 512 := fwF_le (by omega)
              refine lv_istore (lv' := [(7, .int (nI (fwF lw))), (6, .int (nI (cbF pr w (op ci) (bl op ci) (en (ci % 2 * 2)) (en (ci % 2 * 2 + 1)) lw h))), (0, .ref (b 8)), (1, .int (nI ci)), (2, .ref (b (28 + ci))), (3, .int (nI h)), (4, .int (nI (fwF h))), (5, .int (nI lw))]) S.1 S.2.1 dX4_sumLeftOfHighest_50 hl (by decide) rfl (fun ls hl => ?_)
              have L52 : ∀ (f52 : Nat) (i : Nat) (t3 : Nat → Nat → Nat) (H : Heap) (locs : List Loc), (fwF lw ≤ i) → (i ≤ fwF (lw + 1)) → (COt ci co t3) → (∀ i, i < 2 ^ (h - 1) → t3 ci i = slF pr w (op ci) (bl op ci) (en (ci % 2 * 2)) (en (ci % 2 * 2 + 1)) i) → (∀ q, q < i → t3 ci (q + 2 ^ (h - 1)) = slF pr w (op ci) (bl op ci) (en (ci % 2 * 2)) (en (ci % 2 * 2 + 1)) (q + 2 ^ (h - 1))) → (PI D K (cW K b w n lap op mu ba la en pr fr t3 cw cj cl rv rc pj pw ch pl lc tl) s H) → (va_S (adA b 44) s.heap H locs) → fwF (lw + 1) - i < f52 → ∀ (ls : Array Slot), lv_has ls 8 [(0, .ref (b 8)), (1, .int (nI ci)), (2, .ref (b (28 + ci))), (3, .int (nI h)), (4, .int (nI (fwF h))), (5, .int (nI lw)), (6, .int (nI (cbF pr w (op ci) (bl op ci) (en (ci % 2 * 2)) (en (ci % 2 * 2 + 1)) lw h))), (7, .int (nI i))] → W p l e (rmk 3) s m ([.ref (b 8), .int (nI ci), .ref (b (28 + ci))] : List Value).toArray below meth c H locs 0 0 (MQ below (QX D K (fun u : Nat → Nat → Nat => none) (fun u => (cW K b w n lap op mu ba la en pr fr u cw cj cl rv rc pj pw ch pl lc tl)) (fun u => COt ci co u ∧ ∀ i, i < 2 ^ (w - 1) → u ci i = slF pr w (op ci) (bl op ci) (en (ci % 2 * 2)) (en (ci % 2 * 2 + 1)) i) (adA b 44)) ([.ref (b 8), .int (nI ci), .ref (b (28 + ci))] : List Value).toArray s 0 0 (adA b 44)) (F0 m 52 ls []) := by
                intro f52
                induction f52 with
                | zero =>
                  intro i t3 H locs k1 k2 k3 k4 k5 hI hS hm
                  exact absurd hm (Nat.not_lt_zero _)
                | succ f52 ih52 =>
                  intro i t3 H locs k1 k2 k3 k4 k5 hI hS hm52 ls hl
                  refine lv_iload S.1 S.2.1 dX4_sumLeftOfHighest_52 (lv_at hl 7 rfl) ?_
                  refine lv_iload S.1 S.2.1 dX4_sumLeftOfHighest_54 (lv_at hl 5 rfl) ?_
                  refine lv_iconst (v := nI 1) S.1 S.2.1 dX4_sumLeftOfHighest_56 (by decide) ?_
                  refine lv_iadd S.1 S.2.1 dX4_sumLeftOfHighest_57 ?_
                  refine ly_top (z := nI (lw + 1)) (nI_add _ _) ?_
                  refine kX4_firstWith S (by omega) tw_376 (rok (by decide)) hl.1 (Nat.le_of_ble_eq_true rfl) dX4_sumLeftOfHighest_58 ?_
                  have b6 : fwF (lw + 1) ≤ 512 := fwF_le (by omega)
                  refine ly_cmge (tgt := 99) S (nI_le1 (by omega) (by omega)) (nI_le2 (by omega) (by omega)) dX4_sumLeftOfHighest_61 (by decide) (fun h7 => ?_) (fun h7 => ?_)
                  · skip
                    refine lv_iinc (v := nI (lw + 1)) (lv' := [(5, .int (nI (lw + 1))), (0, .ref (b 8)), (1, .int (nI ci)), (2, .ref (b (28 + ci))), (3, .int (nI h)), (4, .int (nI (fwF h))), (6, .int (nI (cbF pr w (op ci) (bl op ci) (en (ci % 2 * 2)) (en (ci % 2 * 2 + 1)) lw h))), (7, .int (nI i))]) S.1 S.2.1 dX4_sumLeftOfHighest_99 hl (k := 5) rfl (nJ_in _ _) (by decide) rfl (fun ls hl => ?_)
                    refine lv_goto (tgt := 26) S.1 S.2.1 dX4_sumLeftOfHighest_102 (by decide) ?_
                    exact ih26 (lw + 1) t3 _ _ (by omega) k3 k4 (fun i hi => k5 i (by omega)) hI hS (by omega) _ (lv_sub hl [1, 2, 3, 4, 5, 0] rfl)
                  · skip
                    have o3 := k3.2 ci i
                    refine lv_iload S.1 S.2.1 dX4_sumLeftOfHighest_64 (lv_at hl 7 rfl) ?_
                    refine lv_iload S.1 S.2.1 dX4_sumLeftOfHighest_66 (lv_at hl 4 rfl) ?_
                    refine lv_iadd S.1 S.2.1 dX4_sumLeftOfHighest_68 ?_
                    refine ly_top (z := nI (i + (fwF h))) (nI_add _ _) ?_
                    refine lv_aload_n S.1 S.2.1 dX4_sumLeftOfHighest_69 rfl (lv_at hl 2 rfl) ?_
                    refine ly_alen (t0 := 0) (v := nI 512) S hI (28 + ci) (cw_co (by omega)) rfl rfl dX4_sumLeftOfHighest_70 ?_
                    refine ly_cmge (tgt := 93) S (nI_le1 (by omega) (by omega)) (nI_le2 (by omega) (by omega)) dX4_sumLeftOfHighest_71 (by decide) (fun h8 => ?_) (fun h8 => ?_)
                    · skip
                      exact absurd h8 (by omega)
                    · skip
                      refine lv_aload_n S.1 S.2.1 dX4_sumLeftOfHighest_74 rfl (lv_at hl 2 rfl) ?_
                      refine lv_iload S.1 S.2.1 dX4_sumLeftOfHighest_75 (lv_at hl 7 rfl) ?_
                      refine lv_iload S.1 S.2.1 dX4_sumLeftOfHighest_77 (lv_at hl 4 rfl) ?_
                      refine lv_iadd S.1 S.2.1 dX4_sumLeftOfHighest_79 ?_
                      refine ly_top (z := nI (i + (fwF h))) (nI_add _ _) ?_
                      refine lv_ldc S.1 S.2.1 S.2.2.2.1 (S.2.2.2.2 _ tw_394) dX4_sumLeftOfHighest_80 ?_
                      refine ly_top (z := nI 1000000) (by decide) ?_
                      refine lv_aload_n S.1 S.2.1 dX4_sumLeftOfHighest_82 rfl (lv_at hl 2 rfl) ?_
                      refine lv_iload S.1 S.2.1 dX4_sumLeftOfHighest_83 (lv_at hl 7 rfl) ?_
                      refine ly_iald (v := (nI (t3 ci i))) S hI (28 + ci) (cw_co (by omega)) (by omega) (by decide) rfl dX4_sumLeftOfHighest_85 ?_
                      refine lv_iload S.1 S.2.1 dX4_sumLeftOfHighest_86 (lv_at hl 6 rfl) ?_
                      refine lv_iadd S.1 S.2.1 dX4_sumLeftOfHighest_88 ?_
                      refine ly_top (z := nI ((t3 ci i) + (cbF pr w (op ci) (bl op ci) (en (ci % 2 * 2)) (en (ci % 2 * 2 + 1)) lw h))) (nI_add _ _) ?_
                      refine ly_min (x := 1000000) (z := ((t3 ci i) + (cbF pr w (op ci) (bl op ci) (en (ci % 2 * 2)) (en (ci % 2 * 2 + 1)) lw h))) S tw_395 (rok (by decide)) hl.1 (Nat.le_of_ble_eq_true rfl) (by omega) (by omega) dX4_sumLeftOfHighest_89 ?_
                      refine ly_iast (ws' := (cW K b w n lap op mu ba la en pr fr (va_up t3 ci (va_up (t3 ci) (i + (fwF h)) (min 1000000 ((t3 ci i) + (cbF pr w (op ci) (bl op ci) (en (ci % 2 * 2)) (en (ci % 2 * 2 + 1)) lw h))))) cw cj cl rv rc pj pw ch pl lc tl)) S hI (cD hDis) hS (28 + ci) (cw_co (by omega)) (by omega) (by decide) (cs_co (by omega)) dX4_sumLeftOfHighest_92 (fun H locs hI hS => ?_)
                      refine lv_iinc (v := nI (i + 1)) (lv' := [(7, .int (nI (i + 1))), (0, .ref (b 8)), (1, .int (nI ci)), (2, .ref (b (28 + ci))), (3, .int (nI h)), (4, .int (nI (fwF h))), (5, .int (nI lw)), (6, .int (nI (cbF pr w (op ci) (bl op ci) (en (ci % 2 * 2)) (en (ci % 2 * 2 + 1)) lw h)))]) S.1 S.2.1 dX4_sumLeftOfHighest_93 hl (k := 7) rfl (nJ_in _ _) (by decide) rfl (fun ls hl => ?_)
                      refine lv_goto (tgt := 52) S.1 S.2.1 dX4_sumLeftOfHighest_96 (by decide) ?_
                      exact ih52 (i + 1) (va_up t3 ci (va_up (t3 ci) (i + (fwF h)) (min 1000000 ((t3 ci i) + (cbF pr w (op ci) (bl op ci) (en (ci % 2 * 2)) (en (ci % 2 * 2 + 1)) lw h))))) _ _ (by omega) (by omega) (COt_up k3 (Nat.min_le_left _ _)) (fun q hq => by rw [ups, upn (by omega)]; exact k4 q hq) (sl_in (w := w) k1 h7 (k4 i (by omega)) k5 (by omega) (by omega) ef) hI hS (by omega) _ (lv_sub hl [1, 2, 3, 4, 5, 6, 7, 0] rfl)
              exact L52 _ (fwF lw) t2 _ _ (Nat.le_refl _) (by omega) j3 j4 j5 hI hS (Nat.lt_succ_self _) _ (lv_sub hl [2, 3, 4, 5, 6, 7, 1, 0] rfl)
        exact L26 _ 0 t _ _ (by omega) i3 i4 (fun i hi => absurd hi (by rw [fwF_0]; omega)) hI hS (Nat.lt_succ_self _) _ (lv_sub hl [2, 3, 4, 5, 1, 0] rfl)
  exact L6 _ 1 (va_up co ci (va_up (co ci) 0 0)) _ _ (by omega) (by omega) (COt_up ⟨fun _ _ => rfl, hCO⟩ (by omega)) (sl_0) hI hS (Nat.lt_succ_self _) _ (lv_sub hl [1, 2, 3, 0] rfl)
theorem kX4_sumLeftOfHighest {p : Program} {l : Launch} {e : Env} {R : Room} {s : State} {m : MethodId} {args : Array Value} {below : List Frame} {meth : Method} {c : Code} {H H0 : Heap} {locs : List Loc} {cells slots : Nat} {Q : State → Prop} {cc : ByteArray} {nL index pc : Nat} {own : String} {ls : Array Slot} {rest : List Value} {D : va_G} {K : Nat → ClassId} {b : Nat → Nat} {w n lap : Nat} {op mu ba la en : Nat → Nat} {pr : Nat → Option Nat} {fr : Bool} {co : Nat → Nat → Nat} {cw cj : Nat → Int64} {cl : Nat} {rv : Int64} {rc : Nat} {pj : Nat → Nat → Nat} {pw ch : Nat → Nat} {pl lc : Nat} {tl : Nat → Nat} {ci : Nat} (S : CallFix p m c cc nL s args lw_tb own) (hI : PI D K (cW K b w n lap op mu ba la en pr fr co cw cj cl rv rc pj pw ch pl lc tl) s H) (hS : va_S (adA b 44) H0 H locs) (hDis : Dis b 44) (hG : GOK w n lap op mu ba la en pr) (hc : ci < n) (hCO : COK co) (hlink : Cond.methodLink own index yX4_sumLeftOfHighest ∈ lw_tb) (hR : RO 3 R cells slots) (hsz : ls.size = nL) (hW : (rest.map fun v => v.category).sum ≤ 8) (hdg : decode cc pc = .ok (.invokevirtual index, 3)) (kk : ∀ (u : Nat → Nat → Nat) (H1 : Heap) (locs1 : List Loc), (COt ci co u ∧ ∀ i, i < 2 ^ (w - 1) → u ci i = slF pr w (op ci) (bl op ci) (en (ci % 2 * 2)) (en (ci % 2 * 2 + 1)) i) → PI D K (cW K b w n lap op mu ba la en pr fr u cw cj cl rv rc pj pw ch pl lc tl) s H1 → va_S (adA b 44) H0 H1 locs1 → H.size ≤ H1.size → (∀ q : Nat, q < H.size → ¬ (adA b 44) q → H1[q]? = H[q]?) → W p l e R s m args below meth c H1 locs1 cells slots Q (F0 m (pc + 3) ls (rest))) : W p l e R s m args below meth c H locs cells slots Q (F0 m pc ls (.ref (b (28 + ci)) :: .int (nI ci) :: .ref (b 8) :: rest)) :=
  kVX (As := [.int (nI ci), .ref (b (28 + ci))]) (b := b 8) S (mX4_sumLeftOfHighest l hDis hG hc hCO) hlink tw_374 tw_3 tw_46 tw_375 (by show _ ∧ _ ∧ _ = some 2; decide +kernel) (by decide) hR blP (piU hI) (va_recv hI.2 hI.1 (ci := 4) (q0 := 8) rfl rfl) hS (fun _ h => h) hsz rfl hW hdg kk

set_option maxHeartbeats 4000000 in
set_option maxRecDepth 100000 in
theorem mX4_closeRight (l : Launch) {D : va_G} {K : Nat → ClassId} {b : Nat → Nat} {w n lap : Nat} {op mu ba la en : Nat → Nat} {pr : Nat → Option Nat} {fr : Bool} {co : Nat → Nat → Nat} {cw cj : Nat → Int64} {cl : Nat} {rv : Int64} {rc : Nat} {pj : Nat → Nat → Nat} {pw ch : Nat → Nat} {pl lc : Nat} {tl : Nat → Nat} {ci : Nat} (hDis : Dis b 44) (hG : GOK w n lap op mu ba la en pr) (hc : ci < n) (hCO : COK co) (hsl : ∀ i, i < 2 ^ (w - 1) → co ci i = slF pr w (op ci) (bl op ci) (en (ci % 2 * 2)) (en (ci % 2 * 2 + 1)) i) : Met l yX4_closeRight (TWd yX4_closeRight cX4_closeRight 9 none) (rmk 3) (va_Pc [.ref (b 8), .int (nI ci), .ref (b (28 + ci))] (fun U => PI D K (cW K b w n lap op mu ba la en pr fr co cw cj cl rv rc pj pw ch pl lc tl) U U.heap)) (QX D K (fun u : Nat → Nat → Nat => none) (fun u => (cW K b w n lap op mu ba la en pr fr u cw cj cl rv rc pj pw ch pl lc tl)) (fun u => COt ci co u ∧ ∀ i, i < 2 ^ (w - 1) → u ci i = fcC w op mu ba en pr ci i) (adA b 44)) 0 0 (adA b 44) := by
  refine mt_of (by decide +kernel) (Nat.le_of_ble_eq_true rfl) ?_
  intro p e s m below meth c S hr hlk hI ls hl
  have S : CallFix p m c cX4_closeRight 9 s ([.ref (b 8), .int (nI ci), .ref (b (28 + ci))] : List Value).toArray lw_tb RX4 := S
  have hl : lv_has ls 9 [(0, .ref (b 8)), (1, .int (nI ci)), (2, .ref (b (28 + ci)))] := hl
  have hS : va_S (adA b 44) s.heap s.heap [] := va_S.rf
  obtain ⟨gw1, gw2, gn, gl1, gl2, gop, gmu, gba, gla, gen, gpr, gop2, gmu2, gba2, gla2, gme, gbe, gle, gee⟩ := id hG
  have sw1 : 1 <<< (w - 1) = 2 ^ (w - 1) := Nat.one_shiftLeft _
  have pw1 : 2 ^ (w - 1) ≤ 2 ^ 9 := Nat.pow_le_pow_right (by decide) (by omega)
  have pw2 : 2 ^ (w - 1) ≤ 512 := pw1
  have pw6 : 2 ^ 1 ≤ 2 ^ (w - 1) := Nat.pow_le_pow_right (by decide) (by omega)
  have pw7 : 2 ≤ 2 ^ (w - 1) := pw6
  refine lv_aload_n S.1 S.2.1 dX4_closeRight_0 rfl (lv_at hl 0 rfl) ?_
  refine g4 S hI 8 rfl 0 (by decide) tw_155 rfl dX4_closeRight_1 ?_
  refine lv_iload_n S.1 S.2.1 dX4_closeRight_4 rfl (lv_at hl 1 rfl) ?_
  refine kX6_at_c S hI (by omega) (by omega) tw_402 (rok (by decide)) hl.1 (Nat.le_of_ble_eq_true rfl) dX4_closeRight_5 ?_
  refine lv_astore_n (lv' := [(3, .ref (b (19 + ci))), (0, .ref (b 8)), (1, .int (nI ci)), (2, .ref (b (28 + ci)))]) S.1 S.2.1 dX4_closeRight_8 rfl hl (by decide) rfl (fun ls hl => ?_)
  refine lv_iconst (v := nI 0) S.1 S.2.1 dX4_closeRight_9 (by decide) ?_
  refine lv_istore (lv' := [(4, .int (nI 0)), (3, .ref (b (19 + ci))), (0, .ref (b 8)), (1, .int (nI ci)), (2, .ref (b (28 + ci)))]) S.1 S.2.1 dX4_closeRight_10 hl (by decide) rfl (fun ls hl => ?_)
  have L12 : ∀ (f12 : Nat) (lw : Nat) (t : Nat → Nat → Nat) (H : Heap) (locs : List Loc), (lw ≤ w) → (COt ci co t) → (∀ i, i < fwF lw → t ci i = fcC w op mu ba en pr ci i) → (∀ i, fwF lw ≤ i → i < 2 ^ (w - 1) → t ci i = slF pr w (op ci) (bl op ci) (en (ci % 2 * 2)) (en (ci % 2 * 2 + 1)) i) → (PI D K (cW K b w n lap op mu ba la en pr fr t cw cj cl rv rc pj pw ch pl lc tl) s H) → (va_S (adA b 44) s.heap H locs) → w - lw < f12 → ∀ (ls : Array Slot), lv_has ls 9 [(0, .ref (b 8)), (1, .int (nI ci)), (2, .ref (b (28 + ci))), (3, .ref (b (19 + ci))), (4, .int (nI lw))] → W p l e (rmk 3) s m ([.ref (b 8), .int (nI ci), .ref (b (28 + ci))] : List Value).toArray below meth c H locs 0 0 (MQ below (QX D K (fun u : Nat → Nat → Nat => none) (fun u => (cW K b w n lap op mu ba la en pr fr u cw cj cl rv rc pj pw ch pl lc tl)) (fun u => COt ci co u ∧ ∀ i, i < 2 ^ (w - 1) → u ci i = fcC w op mu ba en pr ci i) (adA b 44)) ([.ref (b 8), .int (nI ci), .ref (b (28 + ci))] : List Value).toArray s 0 0 (adA b 44)) (F0 m 12 ls []) := by
    intro f12
    induction f12 with
    | zero =>
      intro lw t H locs i1 i3 i4 i5 hI hS hm
      exact absurd hm (Nat.not_lt_zero _)
    | succ f12 ih12 =>
      intro lw t H locs i1 i3 i4 i5 hI hS hm12 ls hl
      refine lv_iload S.1 S.2.1 dX4_closeRight_12 (lv_at hl 4 rfl) ?_
      refine lv_aload_n S.1 S.2.1 dX4_closeRight_14 rfl (lv_at hl 0 rfl) ?_
      refine g4 S hI 8 rfl 0 (by decide) tw_155 rfl dX4_closeRight_15 ?_
      refine g6 S hI 1 rfl 3 (by decide) tw_127 rfl dX4_closeRight_18 ?_
      refine ly_cmge (tgt := 138) S (nI_le1 (by omega) (by omega)) (nI_le2 (by omega) (by omega)) dX4_closeRight_21 (by decide) (fun h1 => ?_) (fun h1 => ?_)
      · skip
        exact rw_v S hr hlk t rfl ⟨i3, fun i hi => i4 i (by rw [show lw = (w - 1) + 1 by omega, fwF_s]; exact hi)⟩ hI hS dX4_closeRight_138
      · skip
        have fm0 := fwF_mono (show lw ≤ lw + 1 by omega)
        have fm1 : fwF (lw + 1) ≤ 2 ^ (w - 1) := by rw [fwF_s]; exact Nat.pow_le_pow_right (by decide) (by omega)
        refine lv_aload_n S.1 S.2.1 dX4_closeRight_24 rfl (lv_at hl 0 rfl) ?_
        refine g4 S hI 8 rfl 0 (by decide) tw_155 rfl dX4_closeRight_25 ?_
        refine lv_iload_n S.1 S.2.1 dX4_closeRight_28 rfl (lv_at hl 1 rfl) ?_
        refine lv_iload S.1 S.2.1 dX4_closeRight_29 (lv_at hl 4 rfl) ?_
        refine lv_aload_n S.1 S.2.1 dX4_closeRight_31 rfl (lv_at hl 0 rfl) ?_
        refine g4 S hI 8 rfl 0 (by decide) tw_155 rfl dX4_closeRight_32 ?_
        refine g6 S hI 1 rfl 3 (by decide) tw_127 rfl dX4_closeRight_35 ?_
        refine kX6_costBetween S hI hG (by omega) (by omega) (by omega) tw_379 (rok (by decide)) hl.1 (Nat.le_of_ble_eq_true rfl) dX4_closeRight_38 ?_
        have b2 : cbF pr w (op ci) (bl op ci) (en (ci % 2 * 2)) (en (ci % 2 * 2 + 1)) lw w ≤ 1000000 := Nat.min_le_left _ _
        refine lv_istore (lv' := [(5, .int (nI (cbF pr w (op ci) (bl op ci) (en (ci % 2 * 2)) (en (ci % 2 * 2 + 1)) lw w))), (0, .ref (b 8)), (1, .int (nI ci)), (2, .ref (b (28 + ci))), (3, .ref (b (19 + ci))), (4, .int (nI lw))]) S.1 S.2.1 dX4_closeRight_41 hl (by decide) rfl (fun ls hl => ?_)
        refine lv_iload S.1 S.2.1 dX4_closeRight_43 (lv_at hl 5 rfl) ?_
        refine kX4_firstWith S (by omega) tw_376 (rok (by decide)) hl.1 (Nat.le_of_ble_eq_true rfl) dX4_closeRight_45 ?_
        have b3 : fwF lw ≤ 512 := fwF_le (by omega)
        refine lv_istore (lv' := [(6, .int (nI (fwF lw))), (5, .int (nI (cbF pr w (op ci) (bl op ci) (en (ci % 2 * 2)) (en (ci % 2 * 2 + 1)) lw w))), (0, .ref (b 8)), (1, .int (nI ci)), (2, .ref (b (28 + ci))), (3, .ref (b (19 + ci))), (4, .int (nI lw))]) S.1 S.2.1 dX4_closeRight_48 hl (by decide) rfl (fun ls hl => ?_)
        have L50 : ∀ (f50 : Nat) (i : Nat) (t3 : Nat → Nat → Nat) (H : Heap) (locs : List Loc), (fwF lw ≤ i) → (i ≤ fwF (lw + 1)) → (COt ci co t3) → (∀ q, q < i → t3 ci q = fcC w op mu ba en pr ci q) → (∀ q, i ≤ q → q < 2 ^ (w - 1) → t3 ci q = slF pr w (op ci) (bl op ci) (en (ci % 2 * 2)) (en (ci % 2 * 2 + 1)) q) → (PI D K (cW K b w n lap op mu ba la en pr fr t3 cw cj cl rv rc pj pw ch pl lc tl) s H) → (va_S (adA b 44) s.heap H locs) → fwF (lw + 1) - i < f50 → ∀ (ls : Array Slot), lv_has ls 9 [(0, .ref (b 8)), (1, .int (nI ci)), (2, .ref (b (28 + ci))), (3, .ref (b (19 + ci))), (4, .int (nI lw)), (5, .int (nI (cbF pr w (op ci) (bl op ci) (en (ci % 2 * 2)) (en (ci % 2 * 2 + 1)) lw w))), (6, .int (nI i))] → W p l e (rmk 3) s m ([.ref (b 8), .int (nI ci), .ref (b (28 + ci))] : List Value).toArray below meth c H locs 0 0 (MQ below (QX D K (fun u : Nat → Nat → Nat => none) (fun u => (cW K b w n lap op mu ba la en pr fr u cw cj cl rv rc pj pw ch pl lc tl)) (fun u => COt ci co u ∧ ∀ i, i < 2 ^ (w - 1) → u ci i = fcC w op mu ba en pr ci i) (adA b 44)) ([.ref (b 8), .int (nI ci), .ref (b (28 + ci))] : List Value).toArray s 0 0 (adA b 44)) (F0 m 50 ls []) := by
          intro f50
          induction f50 with
          | zero =>
            intro i t3 H locs k1 k2 k3 k4 k5 hI hS hm
            exact absurd hm (Nat.not_lt_zero _)
          | succ f50 ih50 =>
            intro i t3 H locs k1 k2 k3 k4 k5 hI hS hm50 ls hl
            refine lv_iload S.1 S.2.1 dX4_closeRight_50 (lv_at hl 6 rfl) ?_
            refine lv_iload S.1 S.2.1 dX4_closeRight_52 (lv_at hl 4 rfl) ?_
            refine lv_iconst (v := nI 1) S.1 S.2.1 dX4_closeRight_54 (by decide) ?_
            refine lv_iadd S.1 S.2.1 dX4_closeRight_55 ?_
            refine ly_top (z := nI (lw + 1)) (nI_add _ _) ?_
            refine kX4_firstWith S (by omega) tw_376 (rok (by decide)) hl.1 (Nat.le_of_ble_eq_true rfl) dX4_closeRight_56 ?_
            have b4 : fwF (lw + 1) ≤ 512 := fwF_le (by omega)
            refine ly_cmge (tgt := 132) S (nI_le1 (by omega) (by omega)) (nI_le2 (by omega) (by omega)) dX4_closeRight_59 (by decide) (fun h5 => ?_) (fun h5 => ?_)
            · skip
              refine lv_iinc (v := nI (lw + 1)) (lv' := [(4, .int (nI (lw + 1))), (0, .ref (b 8)), (1, .int (nI ci)), (2, .ref (b (28 + ci))), (3, .ref (b (19 + ci))), (5, .int (nI (cbF pr w (op ci) (bl op ci) (en (ci % 2 * 2)) (en (ci % 2 * 2 + 1)) lw w))), (6, .int (nI i))]) S.1 S.2.1 dX4_closeRight_132 hl (k := 4) rfl (nJ_in _ _) (by decide) rfl (fun ls hl => ?_)
              refine lv_goto (tgt := 12) S.1 S.2.1 dX4_closeRight_135 (by decide) ?_
              exact ih12 (lw + 1) t3 _ _ (by omega) k3 (fun q hq => k4 q (by omega)) (fun q h1 h2 => k5 q (by omega) h2) hI hS (by omega) _ (lv_sub hl [1, 2, 3, 4, 0] rfl)
            · skip
              have HL := h5
              refine lv_iload S.1 S.2.1 dX4_closeRight_62 (lv_at hl 6 rfl) ?_
              refine lv_aload_n S.1 S.2.1 dX4_closeRight_64 rfl (lv_at hl 2 rfl) ?_
              refine ly_alen (t0 := 0) (v := nI 512) S hI (28 + ci) (cw_co (by omega)) rfl rfl dX4_closeRight_65 ?_
              refine ly_cmge (tgt := 132) S (nI_le1 (by omega) (by omega)) (nI_le2 (by omega) (by omega)) dX4_closeRight_66 (by decide) (fun h6 => ?_) (fun h6 => ?_)
              · skip
                exact absurd h6 (by omega)
              · skip
                refine lv_iload S.1 S.2.1 dX4_closeRight_69 (lv_at hl 6 rfl) ?_
                refine lv_iconst (v := nI 1) S.1 S.2.1 dX4_closeRight_71 (by decide) ?_
                refine lv_ishl S.1 S.2.1 dX4_closeRight_72 ?_
                refine ly_top (z := nI (i <<< 1)) (nI_shl (by omega) (by rw [Nat.shiftLeft_eq]; omega)) ?_
                refine ly_top (z := (nI (2 * i))) (by rw [Nat.shiftLeft_eq, Nat.mul_comm]) ?_
                refine lv_istore (lv' := [(7, .int (nI (2 * i))), (0, .ref (b 8)), (1, .int (nI ci)), (2, .ref (b (28 + ci))), (3, .ref (b (19 + ci))), (4, .int (nI lw)), (5, .int (nI (cbF pr w (op ci) (bl op ci) (en (ci % 2 * 2)) (en (ci % 2 * 2 + 1)) lw w))), (6, .int (nI i))]) S.1 S.2.1 dX4_closeRight_73 hl (by decide) rfl (fun ls hl => ?_)
                refine lv_aload_n S.1 S.2.1 dX4_closeRight_75 rfl (lv_at hl 4 rfl) ?_
                refine lv_iload S.1 S.2.1 dX4_closeRight_76 (lv_at hl 0 rfl) ?_
                refine kX2_keepsWithinSpans S hI hG (by first | omega | exact bwc_lt (by omega)) (by omega) tw_403 (rok (by decide)) hl.1 (Nat.le_of_ble_eq_true rfl) dX4_closeRight_78 ?_
                refine ly_top (z := (bI (decide ((2 * i) &&& (op ci ||| op ci <<< 1) = 0)))) (by rw [gzl (f := op) (by omega)]) ?_
                refine ly_ifeq (tgt := 97) S bI_e1 bI_e2 dX4_closeRight_81 (by decide) (fun h7 => ?_) (fun h7 => ?_)
                · skip
                  refine lv_iconst (v := nI 0) S.1 S.2.1 dX4_closeRight_97 (by decide) ?_
                  refine ly_top (z := bI (kpF (op ci) (mu ci) (ba ci) (2 * i))) (by rw [show (kpF (op ci) (mu ci) (ba ci) (2 * i)) = false by simp only [kpF, h7]; rfl]; rfl) ?_
                  refine lv_istore (lv' := [(8, .int (bI (kpF (op ci) (mu ci) (ba ci) (2 * i)))), (7, .int (nI (2 * i))), (0, .ref (b 8)), (1, .int (nI ci)), (2, .ref (b (28 + ci))), (3, .ref (b (19 + ci))), (4, .int (nI lw)), (5, .int (nI (cbF pr w (op ci) (bl op ci) (en (ci % 2 * 2)) (en (ci % 2 * 2 + 1)) lw w))), (6, .int (nI i))]) S.1 S.2.1 dX4_closeRight_98 hl (by decide) rfl (fun ls hl => ?_)
                  refine lv_aload_n S.1 S.2.1 dX4_closeRight_100 rfl (lv_at hl 4 rfl) ?_
                  refine lv_iload S.1 S.2.1 dX4_closeRight_101 (lv_at hl 8 rfl) ?_
                  refine lv_iload S.1 S.2.1 dX4_closeRight_103 (lv_at hl 0 rfl) ?_
                  refine ly_ifeq (tgt := 123) S bI_e1 bI_e2 dX4_closeRight_105 (by decide) (fun h8 => ?_) (fun h8 => ?_)
                  · skip
                    refine lv_ldc S.1 S.2.1 S.2.2.2.1 (S.2.2.2.2 _ tw_394) dX4_closeRight_123 ?_
                    refine ly_top (z := nI 1000000) (by decide) ?_
                    refine ly_iast (ws' := (cW K b w n lap op mu ba la en pr fr (va_up t3 ci (va_up (t3 ci) i 1000000)) cw cj cl rv rc pj pw ch pl lc tl)) S hI (cD hDis) hS (28 + ci) (cw_co (by omega)) (by omega) (by decide) (cs_co (by omega)) dX4_closeRight_125 (fun H locs hI hS => ?_)
                    refine lv_iinc (v := nI (i + 1)) (lv' := [(6, .int (nI (i + 1))), (8, .int (bI (kpF (op ci) (mu ci) (ba ci) (2 * i)))), (7, .int (nI (2 * i))), (0, .ref (b 8)), (1, .int (nI ci)), (2, .ref (b (28 + ci))), (3, .ref (b (19 + ci))), (4, .int (nI lw)), (5, .int (nI (cbF pr w (op ci) (bl op ci) (en (ci % 2 * 2)) (en (ci % 2 * 2 + 1)) lw w)))]) S.1 S.2.1 dX4_closeRight_126 hl (k := 8) rfl (nJ_in _ _) (by decide) rfl (fun ls hl => ?_)
                    refine lv_goto (tgt := 50) S.1 S.2.1 dX4_closeRight_129 (by decide) ?_
                    exact ih50 (i + 1) (va_up t3 ci (va_up (t3 ci) i 1000000)) _ _ (by omega) (by omega) (COt_up k3 (Nat.le_refl _)) (fc_in0 (w := w) k1 HL k4 (k5 i (Nat.le_refl _) (by omega)) (by omega) (by omega) h8) (fun q h1 h2 => by rw [ups, upn (by omega)]; exact k5 q (by omega) h2) hI hS (by omega) _ (lv_sub hl [3, 4, 5, 6, 7, 8, 0] rfl)
                  · skip
                    have o3 := k3.2 ci i
                    refine lv_ldc S.1 S.2.1 S.2.2.2.1 (S.2.2.2.2 _ tw_394) dX4_closeRight_108 ?_
                    refine ly_top (z := nI 1000000) (by decide) ?_
                    refine lv_aload_n S.1 S.2.1 dX4_closeRight_110 rfl (lv_at hl 4 rfl) ?_
                    refine lv_iload S.1 S.2.1 dX4_closeRight_111 (lv_at hl 8 rfl) ?_
                    refine ly_iald (v := (nI (t3 ci i))) S hI (28 + ci) (cw_co (by omega)) (by omega) (by decide) rfl dX4_closeRight_113 ?_
                    refine lv_iload S.1 S.2.1 dX4_closeRight_114 (lv_at hl 7 rfl) ?_
                    refine lv_iadd S.1 S.2.1 dX4_closeRight_116 ?_
                    refine ly_top (z := nI ((t3 ci i) + (cbF pr w (op ci) (bl op ci) (en (ci % 2 * 2)) (en (ci % 2 * 2 + 1)) lw w))) (nI_add _ _) ?_
                    refine ly_min (x := 1000000) (z := ((t3 ci i) + (cbF pr w (op ci) (bl op ci) (en (ci % 2 * 2)) (en (ci % 2 * 2 + 1)) lw w))) S tw_395 (rok (by decide)) hl.1 (Nat.le_of_ble_eq_true rfl) (by omega) (by omega) dX4_closeRight_117 ?_
                    refine lv_goto (tgt := 125) S.1 S.2.1 dX4_closeRight_120 (by decide) ?_
                    refine ly_iast (ws' := (cW K b w n lap op mu ba la en pr fr (va_up t3 ci (va_up (t3 ci) i (min 1000000 ((t3 ci i) + (cbF pr w (op ci) (bl op ci) (en (ci % 2 * 2)) (en (ci % 2 * 2 + 1)) lw w))))) cw cj cl rv rc pj pw ch pl lc tl)) S hI (cD hDis) hS (28 + ci) (cw_co (by omega)) (by omega) (by decide) (cs_co (by omega)) dX4_closeRight_125 (fun H locs hI hS => ?_)
                    refine lv_iinc (v := nI (i + 1)) (lv' := [(6, .int (nI (i + 1))), (8, .int (bI (kpF (op ci) (mu ci) (ba ci) (2 * i)))), (7, .int (nI (2 * i))), (0, .ref (b 8)), (1, .int (nI ci)), (2, .ref (b (28 + ci))), (3, .ref (b (19 + ci))), (4, .int (nI lw)), (5, .int (nI (cbF pr w (op ci) (bl op ci) (en (ci % 2 * 2)) (en (ci % 2 * 2 + 1)) lw w)))]) S.1 S.2.1 dX4_closeRight_126 hl (k := 8) rfl (nJ_in _ _) (by decide) rfl (fun ls hl => ?_)
                    refine lv_goto (tgt := 50) S.1 S.2.1 dX4_closeRight_129 (by decide) ?_
                    exact ih50 (i + 1) (va_up t3 ci (va_up (t3 ci) i (min 1000000 ((t3 ci i) + (cbF pr w (op ci) (bl op ci) (en (ci % 2 * 2)) (en (ci % 2 * 2 + 1)) lw w))))) _ _ (by omega) (by omega) (COt_up k3 (Nat.min_le_left _ _)) (fc_in1 (w := w) k1 HL k4 (k5 i (Nat.le_refl _) (by omega)) (by omega) (by omega) h8) (fun q h1 h2 => by rw [ups, upn (by omega)]; exact k5 q (by omega) h2) hI hS (by omega) _ (lv_sub hl [3, 4, 5, 6, 7, 8, 0] rfl)
                · skip
                  refine lv_aload_n S.1 S.2.1 dX4_closeRight_84 rfl (lv_at hl 4 rfl) ?_
                  refine lv_iload S.1 S.2.1 dX4_closeRight_85 (lv_at hl 0 rfl) ?_
                  refine kX2_keepsDemands S hI hG (by first | omega | exact bwc_lt (by omega)) (by omega) tw_408 (rok (by decide)) hl.1 (Nat.le_of_ble_eq_true rfl) dX4_closeRight_87 ?_
                  refine ly_top (z := (bI (decide ((2 * i) &&& mu ci = mu ci) && decide ((2 * i) &&& ba ci = 0)))) (by rw [gzl (f := ba) (by omega), gzl (f := mu) (by omega)]) ?_
                  refine ly_ifeq (tgt := 97) S bI_e1 bI_e2 dX4_closeRight_90 (by decide) (fun h9 => ?_) (fun h9 => ?_)
                  · skip
                    refine lv_iconst (v := nI 0) S.1 S.2.1 dX4_closeRight_97 (by decide) ?_
                    refine ly_top (z := bI (kpF (op ci) (mu ci) (ba ci) (2 * i))) (by rw [show (kpF (op ci) (mu ci) (ba ci) (2 * i)) = false by simp only [kpF, h7, h9]; rfl]; rfl) ?_
                    refine lv_istore (lv' := [(8, .int (bI (kpF (op ci) (mu ci) (ba ci) (2 * i)))), (7, .int (nI (2 * i))), (0, .ref (b 8)), (1, .int (nI ci)), (2, .ref (b (28 + ci))), (3, .ref (b (19 + ci))), (4, .int (nI lw)), (5, .int (nI (cbF pr w (op ci) (bl op ci) (en (ci % 2 * 2)) (en (ci % 2 * 2 + 1)) lw w))), (6, .int (nI i))]) S.1 S.2.1 dX4_closeRight_98 hl (by decide) rfl (fun ls hl => ?_)
                    refine lv_aload_n S.1 S.2.1 dX4_closeRight_100 rfl (lv_at hl 4 rfl) ?_
                    refine lv_iload S.1 S.2.1 dX4_closeRight_101 (lv_at hl 8 rfl) ?_
                    refine lv_iload S.1 S.2.1 dX4_closeRight_103 (lv_at hl 0 rfl) ?_
                    refine ly_ifeq (tgt := 123) S bI_e1 bI_e2 dX4_closeRight_105 (by decide) (fun h10 => ?_) (fun h10 => ?_)
                    · skip
                      refine lv_ldc S.1 S.2.1 S.2.2.2.1 (S.2.2.2.2 _ tw_394) dX4_closeRight_123 ?_
                      refine ly_top (z := nI 1000000) (by decide) ?_
                      refine ly_iast (ws' := (cW K b w n lap op mu ba la en pr fr (va_up t3 ci (va_up (t3 ci) i 1000000)) cw cj cl rv rc pj pw ch pl lc tl)) S hI (cD hDis) hS (28 + ci) (cw_co (by omega)) (by omega) (by decide) (cs_co (by omega)) dX4_closeRight_125 (fun H locs hI hS => ?_)
                      refine lv_iinc (v := nI (i + 1)) (lv' := [(6, .int (nI (i + 1))), (8, .int (bI (kpF (op ci) (mu ci) (ba ci) (2 * i)))), (7, .int (nI (2 * i))), (0, .ref (b 8)), (1, .int (nI ci)), (2, .ref (b (28 + ci))), (3, .ref (b (19 + ci))), (4, .int (nI lw)), (5, .int (nI (cbF pr w (op ci) (bl op ci) (en (ci % 2 * 2)) (en (ci % 2 * 2 + 1)) lw w)))]) S.1 S.2.1 dX4_closeRight_126 hl (k := 8) rfl (nJ_in _ _) (by decide) rfl (fun ls hl => ?_)
                      refine lv_goto (tgt := 50) S.1 S.2.1 dX4_closeRight_129 (by decide) ?_
                      exact ih50 (i + 1) (va_up t3 ci (va_up (t3 ci) i 1000000)) _ _ (by omega) (by omega) (COt_up k3 (Nat.le_refl _)) (fc_in0 (w := w) k1 HL k4 (k5 i (Nat.le_refl _) (by omega)) (by omega) (by omega) h10) (fun q h1 h2 => by rw [ups, upn (by omega)]; exact k5 q (by omega) h2) hI hS (by omega) _ (lv_sub hl [3, 4, 5, 6, 7, 8, 0] rfl)
                    · skip
                      have o3 := k3.2 ci i
                      refine lv_ldc S.1 S.2.1 S.2.2.2.1 (S.2.2.2.2 _ tw_394) dX4_closeRight_108 ?_
                      refine ly_top (z := nI 1000000) (by decide) ?_
                      refine lv_aload_n S.1 S.2.1 dX4_closeRight_110 rfl (lv_at hl 4 rfl) ?_
                      refine lv_iload S.1 S.2.1 dX4_closeRight_111 (lv_at hl 8 rfl) ?_
                      refine ly_iald (v := (nI (t3 ci i))) S hI (28 + ci) (cw_co (by omega)) (by omega) (by decide) rfl dX4_closeRight_113 ?_
                      refine lv_iload S.1 S.2.1 dX4_closeRight_114 (lv_at hl 7 rfl) ?_
                      refine lv_iadd S.1 S.2.1 dX4_closeRight_116 ?_
                      refine ly_top (z := nI ((t3 ci i) + (cbF pr w (op ci) (bl op ci) (en (ci % 2 * 2)) (en (ci % 2 * 2 + 1)) lw w))) (nI_add _ _) ?_
                      refine ly_min (x := 1000000) (z := ((t3 ci i) + (cbF pr w (op ci) (bl op ci) (en (ci % 2 * 2)) (en (ci % 2 * 2 + 1)) lw w))) S tw_395 (rok (by decide)) hl.1 (Nat.le_of_ble_eq_true rfl) (by omega) (by omega) dX4_closeRight_117 ?_
                      refine lv_goto (tgt := 125) S.1 S.2.1 dX4_closeRight_120 (by decide) ?_
                      refine ly_iast (ws' := (cW K b w n lap op mu ba la en pr fr (va_up t3 ci (va_up (t3 ci) i (min 1000000 ((t3 ci i) + (cbF pr w (op ci) (bl op ci) (en (ci % 2 * 2)) (en (ci % 2 * 2 + 1)) lw w))))) cw cj cl rv rc pj pw ch pl lc tl)) S hI (cD hDis) hS (28 + ci) (cw_co (by omega)) (by omega) (by decide) (cs_co (by omega)) dX4_closeRight_125 (fun H locs hI hS => ?_)
                      refine lv_iinc (v := nI (i + 1)) (lv' := [(6, .int (nI (i + 1))), (8, .int (bI (kpF (op ci) (mu ci) (ba ci) (2 * i)))), (7, .int (nI (2 * i))), (0, .ref (b 8)), (1, .int (nI ci)), (2, .ref (b (28 + ci))), (3, .ref (b (19 + ci))), (4, .int (nI lw)), (5, .int (nI (cbF pr w (op ci) (bl op ci) (en (ci % 2 * 2)) (en (ci % 2 * 2 + 1)) lw w)))]) S.1 S.2.1 dX4_closeRight_126 hl (k := 8) rfl (nJ_in _ _) (by decide) rfl (fun ls hl => ?_)
                      refine lv_goto (tgt := 50) S.1 S.2.1 dX4_closeRight_129 (by decide) ?_
                      exact ih50 (i + 1) (va_up t3 ci (va_up (t3 ci) i (min 1000000 ((t3 ci i) + (cbF pr w (op ci) (bl op ci) (en (ci % 2 * 2)) (en (ci % 2 * 2 + 1)) lw w))))) _ _ (by omega) (by omega) (COt_up k3 (Nat.min_le_left _ _)) (fc_in1 (w := w) k1 HL k4 (k5 i (Nat.le_refl _) (by omega)) (by omega) (by omega) h10) (fun q h1 h2 => by rw [ups, upn (by omega)]; exact k5 q (by omega) h2) hI hS (by omega) _ (lv_sub hl [3, 4, 5, 6, 7, 8, 0] rfl)
                  · skip
                    refine lv_iconst (v := nI 1) S.1 S.2.1 dX4_closeRight_93 (by decide) ?_
                    refine lv_goto (tgt := 98) S.1 S.2.1 dX4_closeRight_94 (by decide) ?_
                    refine ly_top (z := bI (kpF (op ci) (mu ci) (ba ci) (2 * i))) (by rw [show (kpF (op ci) (mu ci) (ba ci) (2 * i)) = true by simp only [kpF, h7, h9]; rfl]; rfl) ?_
                    refine lv_istore (lv' := [(8, .int (bI (kpF (op ci) (mu ci) (ba ci) (2 * i)))), (7, .int (nI (2 * i))), (0, .ref (b 8)), (1, .int (nI ci)), (2, .ref (b (28 + ci))), (3, .ref (b (19 + ci))), (4, .int (nI lw)), (5, .int (nI (cbF pr w (op ci) (bl op ci) (en (ci % 2 * 2)) (en (ci % 2 * 2 + 1)) lw w))), (6, .int (nI i))]) S.1 S.2.1 dX4_closeRight_98 hl (by decide) rfl (fun ls hl => ?_)
                    refine lv_aload_n S.1 S.2.1 dX4_closeRight_100 rfl (lv_at hl 4 rfl) ?_
                    refine lv_iload S.1 S.2.1 dX4_closeRight_101 (lv_at hl 8 rfl) ?_
                    refine lv_iload S.1 S.2.1 dX4_closeRight_103 (lv_at hl 0 rfl) ?_
                    refine ly_ifeq (tgt := 123) S bI_e1 bI_e2 dX4_closeRight_105 (by decide) (fun h11 => ?_) (fun h11 => ?_)
                    · skip
                      refine lv_ldc S.1 S.2.1 S.2.2.2.1 (S.2.2.2.2 _ tw_394) dX4_closeRight_123 ?_
                      refine ly_top (z := nI 1000000) (by decide) ?_
                      refine ly_iast (ws' := (cW K b w n lap op mu ba la en pr fr (va_up t3 ci (va_up (t3 ci) i 1000000)) cw cj cl rv rc pj pw ch pl lc tl)) S hI (cD hDis) hS (28 + ci) (cw_co (by omega)) (by omega) (by decide) (cs_co (by omega)) dX4_closeRight_125 (fun H locs hI hS => ?_)
                      refine lv_iinc (v := nI (i + 1)) (lv' := [(6, .int (nI (i + 1))), (8, .int (bI (kpF (op ci) (mu ci) (ba ci) (2 * i)))), (7, .int (nI (2 * i))), (0, .ref (b 8)), (1, .int (nI ci)), (2, .ref (b (28 + ci))), (3, .ref (b (19 + ci))), (4, .int (nI lw)), (5, .int (nI (cbF pr w (op ci) (bl op ci) (en (ci % 2 * 2)) (en (ci % 2 * 2 + 1)) lw w)))]) S.1 S.2.1 dX4_closeRight_126 hl (k := 8) rfl (nJ_in _ _) (by decide) rfl (fun ls hl => ?_)
                      refine lv_goto (tgt := 50) S.1 S.2.1 dX4_closeRight_129 (by decide) ?_
                      exact ih50 (i + 1) (va_up t3 ci (va_up (t3 ci) i 1000000)) _ _ (by omega) (by omega) (COt_up k3 (Nat.le_refl _)) (fc_in0 (w := w) k1 HL k4 (k5 i (Nat.le_refl _) (by omega)) (by omega) (by omega) h11) (fun q h1 h2 => by rw [ups, upn (by omega)]; exact k5 q (by omega) h2) hI hS (by omega) _ (lv_sub hl [3, 4, 5, 6, 7, 8, 0] rfl)
                    · skip
                      have o3 := k3.2 ci i
                      refine lv_ldc S.1 S.2.1 S.2.2.2.1 (S.2.2.2.2 _ tw_394) dX4_closeRight_108 ?_
                      refine ly_top (z := nI 1000000) (by decide) ?_
                      refine lv_aload_n S.1 S.2.1 dX4_closeRight_110 rfl (lv_at hl 4 rfl) ?_
                      refine lv_iload S.1 S.2.1 dX4_closeRight_111 (lv_at hl 8 rfl) ?_
                      refine ly_iald (v := (nI (t3 ci i))) S hI (28 + ci) (cw_co (by omega)) (by omega) (by decide) rfl dX4_closeRight_113 ?_
                      refine lv_iload S.1 S.2.1 dX4_closeRight_114 (lv_at hl 7 rfl) ?_
                      refine lv_iadd S.1 S.2.1 dX4_closeRight_116 ?_
                      refine ly_top (z := nI ((t3 ci i) + (cbF pr w (op ci) (bl op ci) (en (ci % 2 * 2)) (en (ci % 2 * 2 + 1)) lw w))) (nI_add _ _) ?_
                      refine ly_min (x := 1000000) (z := ((t3 ci i) + (cbF pr w (op ci) (bl op ci) (en (ci % 2 * 2)) (en (ci % 2 * 2 + 1)) lw w))) S tw_395 (rok (by decide)) hl.1 (Nat.le_of_ble_eq_true rfl) (by omega) (by omega) dX4_closeRight_117 ?_
                      refine lv_goto (tgt := 125) S.1 S.2.1 dX4_closeRight_120 (by decide) ?_
                      refine ly_iast (ws' := (cW K b w n lap op mu ba la en pr fr (va_up t3 ci (va_up (t3 ci) i (min 1000000 ((t3 ci i) + (cbF pr w (op ci) (bl op ci) (en (ci % 2 * 2)) (en (ci % 2 * 2 + 1)) lw w))))) cw cj cl rv rc pj pw ch pl lc tl)) S hI (cD hDis) hS (28 + ci) (cw_co (by omega)) (by omega) (by decide) (cs_co (by omega)) dX4_closeRight_125 (fun H locs hI hS => ?_)
                      refine lv_iinc (v := nI (i + 1)) (lv' := [(6, .int (nI (i + 1))), (8, .int (bI (kpF (op ci) (mu ci) (ba ci) (2 * i)))), (7, .int (nI (2 * i))), (0, .ref (b 8)), (1, .int (nI ci)), (2, .ref (b (28 + ci))), (3, .ref (b (19 + ci))), (4, .int (nI lw)), (5, .int (nI (cbF pr w (op ci) (bl op ci) (en (ci % 2 * 2)) (en (ci % 2 * 2 + 1)) lw w)))]) S.1 S.2.1 dX4_closeRight_126 hl (k := 8) rfl (nJ_in _ _) (by decide) rfl (fun ls hl => ?_)
                      refine lv_goto (tgt := 50) S.1 S.2.1 dX4_closeRight_129 (by decide) ?_
                      exact ih50 (i + 1) (va_up t3 ci (va_up (t3 ci) i (min 1000000 ((t3 ci i) + (cbF pr w (op ci) (bl op ci) (en (ci % 2 * 2)) (en (ci % 2 * 2 + 1)) lw w))))) _ _ (by omega) (by omega) (COt_up k3 (Nat.min_le_left _ _)) (fc_in1 (w := w) k1 HL k4 (k5 i (Nat.le_refl _) (by omega)) (by omega) (by omega) h11) (fun q h1 h2 => by rw [ups, upn (by omega)]; exact k5 q (by omega) h2) hI hS (by omega) _ (lv_sub hl [3, 4, 5, 6, 7, 8, 0] rfl)
        exact L50 _ (fwF lw) t _ _ (Nat.le_refl _) (by omega) i3 i4 i5 hI hS (Nat.lt_succ_self _) _ (lv_sub hl [2, 3, 4, 5, 6, 1, 0] rfl)
  exact L12 _ 0 co _ _ (by omega) ⟨fun _ _ => rfl, hCO⟩ (fun i hi => absurd hi (by rw [fwF_0]; omega)) (fun i _ hi => hsl i hi) hI hS (Nat.lt_succ_self _) _ (lv_sub hl [2, 3, 4, 1, 0] rfl)
theorem kX4_closeRight {p : Program} {l : Launch} {e : Env} {R : Room} {s : State} {m : MethodId} {args : Array Value} {below : List Frame} {meth : Method} {c : Code} {H H0 : Heap} {locs : List Loc} {cells slots : Nat} {Q : State → Prop} {cc : ByteArray} {nL index pc : Nat} {own : String} {ls : Array Slot} {rest : List Value} {D : va_G} {K : Nat → ClassId} {b : Nat → Nat} {w n lap : Nat} {op mu ba la en : Nat → Nat} {pr : Nat → Option Nat} {fr : Bool} {co : Nat → Nat → Nat} {cw cj : Nat → Int64} {cl : Nat} {rv : Int64} {rc : Nat} {pj : Nat → Nat → Nat} {pw ch : Nat → Nat} {pl lc : Nat} {tl : Nat → Nat} {ci : Nat} (S : CallFix p m c cc nL s args lw_tb own) (hI : PI D K (cW K b w n lap op mu ba la en pr fr co cw cj cl rv rc pj pw ch pl lc tl) s H) (hS : va_S (adA b 44) H0 H locs) (hDis : Dis b 44) (hG : GOK w n lap op mu ba la en pr) (hc : ci < n) (hCO : COK co) (hsl : ∀ i, i < 2 ^ (w - 1) → co ci i = slF pr w (op ci) (bl op ci) (en (ci % 2 * 2)) (en (ci % 2 * 2 + 1)) i) (hlink : Cond.methodLink own index yX4_closeRight ∈ lw_tb) (hR : RO 3 R cells slots) (hsz : ls.size = nL) (hW : (rest.map fun v => v.category).sum ≤ 8) (hdg : decode cc pc = .ok (.invokevirtual index, 3)) (kk : ∀ (u : Nat → Nat → Nat) (H1 : Heap) (locs1 : List Loc), (COt ci co u ∧ ∀ i, i < 2 ^ (w - 1) → u ci i = fcC w op mu ba en pr ci i) → PI D K (cW K b w n lap op mu ba la en pr fr u cw cj cl rv rc pj pw ch pl lc tl) s H1 → va_S (adA b 44) H0 H1 locs1 → H.size ≤ H1.size → (∀ q : Nat, q < H.size → ¬ (adA b 44) q → H1[q]? = H[q]?) → W p l e R s m args below meth c H1 locs1 cells slots Q (F0 m (pc + 3) ls (rest))) : W p l e R s m args below meth c H locs cells slots Q (F0 m pc ls (.ref (b (28 + ci)) :: .int (nI ci) :: .ref (b 8) :: rest)) :=
  kVX (As := [.int (nI ci), .ref (b (28 + ci))]) (b := b 8) S (mX4_closeRight l hDis hG hc hCO hsl) hlink tw_400 tw_5 tw_46 tw_401 (by show _ ∧ _ ∧ _ = some 2; decide +kernel) (by decide) hR blP (piU hI) (va_recv hI.2 hI.1 (ci := 4) (q0 := 8) rfl rfl) hS (fun _ h => h) hsz rfl hW hdg kk

set_option maxHeartbeats 4000000 in
set_option maxRecDepth 100000 in
theorem mX4_renew (l : Launch) {D : va_G} {K : Nat → ClassId} {b : Nat → Nat} {w n lap : Nat} {op mu ba la en : Nat → Nat} {pr : Nat → Option Nat} {fr : Bool} {co : Nat → Nat → Nat} {cw cj : Nat → Int64} {cl : Nat} {rv : Int64} {rc : Nat} {pj : Nat → Nat → Nat} {pw ch : Nat → Nat} {pl lc : Nat} {tl : Nat → Nat} (hDis : Dis b 44) (hG : GOK w n lap op mu ba la en pr) (hCO : COK co) (hV : fr = true → CoOk w n op mu ba en pr co) : Met l yX4_renew (TWd yX4_renew cX4_renew 2 none) (rmk 4) (va_Pc [.ref (b 8)] (fun U => PI D K (cW K b w n lap op mu ba la en pr fr co cw cj cl rv rc pj pw ch pl lc tl) U U.heap)) (QX D K (fun u : Nat → Nat → Nat => none) (fun u => (cW K b w n lap op mu ba la en pr true u cw cj cl rv rc pj pw ch pl lc tl)) (fun u => COK u ∧ CoOk w n op mu ba en pr u) (adA b 44)) 0 0 (adA b 44) := by
  refine mt_of (by decide +kernel) (Nat.le_of_ble_eq_true rfl) ?_
  intro p e s m below meth c S hr hlk hI ls hl
  have S : CallFix p m c cX4_renew 2 s ([.ref (b 8)] : List Value).toArray lw_tb RX4 := S
  have hl : lv_has ls 2 [(0, .ref (b 8))] := hl
  have hS : va_S (adA b 44) s.heap s.heap [] := va_S.rf
  obtain ⟨gw1, gw2, gn, gl1, gl2, gop, gmu, gba, gla, gen, gpr, gop2, gmu2, gba2, gla2, gme, gbe, gle, gee⟩ := id hG
  refine lv_aload_n S.1 S.2.1 dX4_renew_0 rfl (lv_at hl 0 rfl) ?_
  refine g4 S hI 8 rfl 2 (by decide) tw_157 rfl dX4_renew_1 ?_
  refine ly_ifeq (tgt := 8) S bI_e1 bI_e2 dX4_renew_4 (by decide) (fun h1 => ?_) (fun h1 => ?_)
  · skip
    refine lv_iconst (v := nI 0) S.1 S.2.1 dX4_renew_8 (by decide) ?_
    refine lv_istore_n (lv' := [(1, .int (nI 0)), (0, .ref (b 8))]) S.1 S.2.1 dX4_renew_9 rfl hl (by decide) rfl (fun ls hl => ?_)
    have L10 : ∀ (f10 : Nat) (k : Nat) (t : Nat → Nat → Nat) (H : Heap) (locs : List Loc), (k ≤ n) → (COK t) → (∀ c i, c < k → i < 2 ^ (w - 1) → t c i = fcC w op mu ba en pr c i) → (PI D K (cW K b w n lap op mu ba la en pr fr t cw cj cl rv rc pj pw ch pl lc tl) s H) → (va_S (adA b 44) s.heap H locs) → n - k < f10 → ∀ (ls : Array Slot), lv_has ls 2 [(0, .ref (b 8)), (1, .int (nI k))] → W p l e (rmk 4) s m ([.ref (b 8)] : List Value).toArray below meth c H locs 0 0 (MQ below (QX D K (fun u : Nat → Nat → Nat => none) (fun u => (cW K b w n lap op mu ba la en pr true u cw cj cl rv rc pj pw ch pl lc tl)) (fun u => COK u ∧ CoOk w n op mu ba en pr u) (adA b 44)) ([.ref (b 8)] : List Value).toArray s 0 0 (adA b 44)) (F0 m 10 ls []) := by
      intro f10
      induction f10 with
      | zero =>
        intro k t H locs i1 i2 i3 hI hS hm
        exact absurd hm (Nat.not_lt_zero _)
      | succ f10 ih10 =>
        intro k t H locs i1 i2 i3 hI hS hm10 ls hl
        refine lv_iload_n S.1 S.2.1 dX4_renew_10 rfl (lv_at hl 1 rfl) ?_
        refine lv_aload_n S.1 S.2.1 dX4_renew_11 rfl (lv_at hl 0 rfl) ?_
        refine g4 S hI 8 rfl 0 (by decide) tw_155 rfl dX4_renew_12 ?_
        refine g6 S hI 1 rfl 4 (by decide) tw_130 rfl dX4_renew_15 ?_
        refine ly_cmge (tgt := 58) S (nI_le1 (by omega) (by omega)) (nI_le2 (by omega) (by omega)) dX4_renew_18 (by decide) (fun h2 => ?_) (fun h2 => ?_)
        · skip
          refine lv_aload_n S.1 S.2.1 dX4_renew_58 rfl (lv_at hl 0 rfl) ?_
          refine lv_iconst (v := nI 1) S.1 S.2.1 dX4_renew_59 (by decide) ?_
          refine ly_top (z := bI true) rfl ?_
          refine p4 (ws' := (cW K b w n lap op mu ba la en pr true t cw cj cl rv rc pj pw ch pl lc tl)) S hI (cD hDis) hS 8 rfl 2 (by decide) tw_157 rfl rfl (bI_nar _) (bI_fit _) (Nat.le_of_ble_eq_true rfl) rfl dX4_renew_60 (fun H locs hI hS => ?_)
          exact rw_v S hr hlk t rfl ⟨i2, fun c i hc hi => i3 c i (by omega) hi⟩ hI hS dX4_renew_63
        · skip
          refine lv_iload_n S.1 S.2.1 dX4_renew_21 rfl (lv_at hl 1 rfl) ?_
          refine lv_aload_n S.1 S.2.1 dX4_renew_22 rfl (lv_at hl 0 rfl) ?_
          refine g4 S hI 8 rfl 1 (by decide) tw_156 rfl dX4_renew_23 ?_
          refine ly_alen (t0 := 4) (v := nI 8) S hI 9 rfl rfl rfl dX4_renew_26 ?_
          refine ly_cmge (tgt := 58) S (nI_le1 (by omega) (by omega)) (nI_le2 (by omega) (by omega)) dX4_renew_27 (by decide) (fun h3 => ?_) (fun h3 => ?_)
          · skip
            exact absurd h3 (by omega)
          · skip
            refine lv_aload_n S.1 S.2.1 dX4_renew_30 rfl (lv_at hl 0 rfl) ?_
            refine lv_iload_n S.1 S.2.1 dX4_renew_31 rfl (lv_at hl 1 rfl) ?_
            refine lv_aload_n S.1 S.2.1 dX4_renew_32 rfl (lv_at hl 0 rfl) ?_
            refine g4 S hI 8 rfl 1 (by decide) tw_156 rfl dX4_renew_33 ?_
            refine lv_iload_n S.1 S.2.1 dX4_renew_36 rfl (lv_at hl 1 rfl) ?_
            refine ly_aald (t0 := 4) (v := b (28 + k)) S hI 9 rfl rfl rfl (by omega) (by decide) rfl dX4_renew_37 ?_
            refine kX4_sumLeftOfHighest S hI hS hDis hG (by omega) i2 tw_372 (rok (by decide)) hl.1 (Nat.le_of_ble_eq_true rfl) dX4_renew_38 (fun u4 H locs hu4 hI hS _ _ => ?_)
            have r1 := hu4
            refine lv_aload_n S.1 S.2.1 dX4_renew_41 rfl (lv_at hl 0 rfl) ?_
            refine lv_iload_n S.1 S.2.1 dX4_renew_42 rfl (lv_at hl 1 rfl) ?_
            refine lv_aload_n S.1 S.2.1 dX4_renew_43 rfl (lv_at hl 0 rfl) ?_
            refine g4 S hI 8 rfl 1 (by decide) tw_156 rfl dX4_renew_44 ?_
            refine lv_iload_n S.1 S.2.1 dX4_renew_47 rfl (lv_at hl 1 rfl) ?_
            refine ly_aald (t0 := 4) (v := b (28 + k)) S hI 9 rfl rfl rfl (by omega) (by decide) rfl dX4_renew_48 ?_
            refine kX4_closeRight S hI hS hDis hG (by omega) r1.1.2 r1.2 tw_398 (rok (by decide)) hl.1 (Nat.le_of_ble_eq_true rfl) dX4_renew_49 (fun u5 H locs hu5 hI hS _ _ => ?_)
            have r2 := hu5
            refine lv_iinc (v := nI (k + 1)) (lv' := [(1, .int (nI (k + 1))), (0, .ref (b 8))]) S.1 S.2.1 dX4_renew_52 hl (k := 1) rfl (nJ_in _ _) (by decide) rfl (fun ls hl => ?_)
            refine lv_goto (tgt := 10) S.1 S.2.1 dX4_renew_55 (by decide) ?_
            exact ih10 (k + 1) u5 _ _ (by omega) r2.1.2 (fun c i hc hi => if e : c = k then (by subst e; exact r2.2 i hi) else (by rw [r2.1.1 c e, r1.1.1 c e]; exact i3 c i (by omega) hi)) hI hS (by omega) _ (lv_sub hl [1, 0] rfl)
    exact L10 _ 0 co _ _ (by omega) hCO (fun c i hc => absurd hc (Nat.not_lt_zero c)) hI hS (Nat.lt_succ_self _) _ (lv_sub hl [1, 0] rfl)
  · skip
    obtain rfl : fr = true := h1
    exact rw_v S hr hlk co rfl ⟨hCO, hV rfl⟩ hI hS dX4_renew_7
theorem kX4_renew {p : Program} {l : Launch} {e : Env} {R : Room} {s : State} {m : MethodId} {args : Array Value} {below : List Frame} {meth : Method} {c : Code} {H H0 : Heap} {locs : List Loc} {cells slots : Nat} {Q : State → Prop} {cc : ByteArray} {nL index pc : Nat} {own : String} {ls : Array Slot} {rest : List Value} {D : va_G} {K : Nat → ClassId} {b : Nat → Nat} {w n lap : Nat} {op mu ba la en : Nat → Nat} {pr : Nat → Option Nat} {fr : Bool} {co : Nat → Nat → Nat} {cw cj : Nat → Int64} {cl : Nat} {rv : Int64} {rc : Nat} {pj : Nat → Nat → Nat} {pw ch : Nat → Nat} {pl lc : Nat} {tl : Nat → Nat} (S : CallFix p m c cc nL s args lw_tb own) (hI : PI D K (cW K b w n lap op mu ba la en pr fr co cw cj cl rv rc pj pw ch pl lc tl) s H) (hS : va_S (adA b 44) H0 H locs) (hDis : Dis b 44) (hG : GOK w n lap op mu ba la en pr) (hCO : COK co) (hV : fr = true → CoOk w n op mu ba en pr co) (hlink : Cond.methodLink own index yX4_renew ∈ lw_tb) (hR : RO 4 R cells slots) (hsz : ls.size = nL) (hW : (rest.map fun v => v.category).sum ≤ 8) (hdg : decode cc pc = .ok (.invokevirtual index, 3)) (kk : ∀ (u : Nat → Nat → Nat) (H1 : Heap) (locs1 : List Loc), (COK u ∧ CoOk w n op mu ba en pr u) → PI D K (cW K b w n lap op mu ba la en pr true u cw cj cl rv rc pj pw ch pl lc tl) s H1 → va_S (adA b 44) H0 H1 locs1 → H.size ≤ H1.size → (∀ q : Nat, q < H.size → ¬ (adA b 44) q → H1[q]? = H[q]?) → W p l e R s m args below meth c H1 locs1 cells slots Q (F0 m (pc + 3) ls (rest))) : W p l e R s m args below meth c H locs cells slots Q (F0 m pc ls (.ref (b 8) :: rest)) :=
  kVX (As := []) (b := b 8) S (mX4_renew l hDis hG hCO hV) hlink tw_369 tw_370 tw_46 tw_371 (by show _ ∧ _ ∧ _ = some 0; decide +kernel) (by decide) hR blP (piU hI) (va_recv hI.2 hI.1 (ci := 4) (q0 := 8) rfl rfl) hS (fun _ h => h) hsz rfl hW hdg kk

set_option maxHeartbeats 4000000 in
set_option maxRecDepth 100000 in
theorem mX4_howMany (l : Launch) {D : va_G} {K : Nat → ClassId} {b : Nat → Nat} {w n lap : Nat} {op mu ba la en : Nat → Nat} {pr : Nat → Option Nat} {fr : Bool} {co : Nat → Nat → Nat} {cw cj : Nat → Int64} {cl : Nat} {rv : Int64} {rc : Nat} {pj : Nat → Nat → Nat} {pw ch : Nat → Nat} {pl lc : Nat} {tl : Nat → Nat} {ci : Nat} (hG : GOK w n lap op mu ba la en pr) (hc : ci < 8) (hCO : COK co) : Met l yX4_howMany (TWd yX4_howMany cX4_howMany 5 (some .int)) (rmk 2) (va_Pc [.ref (b 8), .int (nI ci)] (fun U => PI D K (cW K b w n lap op mu ba la en pr fr co cw cj cl rv rc pj pw ch pl lc tl) U U.heap)) (QcRead (nI ((flt (fun q => decide (co ci q < 1000000)) (2 ^ (w - 1))).length))) 0 0 (fun _ => False) := by
  refine mt_of (by decide +kernel) (Nat.le_of_ble_eq_true rfl) ?_
  intro p e s m below meth c S hr hlk hI ls hl
  have S : CallFix p m c cX4_howMany 5 s ([.ref (b 8), .int (nI ci)] : List Value).toArray lw_tb RX4 := S
  have hl : lv_has ls 5 [(0, .ref (b 8)), (1, .int (nI ci))] := hl
  obtain ⟨gw1, gw2, gn, gl1, gl2, gop, gmu, gba, gla, gen, gpr, gop2, gmu2, gba2, gla2, gme, gbe, gle, gee⟩ := id hG
  refine lv_iconst (v := nI 0) S.1 S.2.1 dX4_howMany_0 (by decide) ?_
  refine ly_top (z := (nI ((flt (fun q => decide (co ci q < 1000000)) 0).length))) rfl ?_
  refine lv_istore_n (lv' := [(2, .int (nI ((flt (fun q => decide (co ci q < 1000000)) 0).length))), (0, .ref (b 8)), (1, .int (nI ci))]) S.1 S.2.1 dX4_howMany_1 rfl hl (by decide) rfl (fun ls hl => ?_)
  refine lv_aload_n S.1 S.2.1 dX4_howMany_2 rfl (lv_at hl 1 rfl) ?_
  refine g4 S hI 8 rfl 0 (by decide) tw_155 rfl dX4_howMany_3 ?_
  refine kX6_sets S hI hG tw_416 (rok (by decide)) hl.1 (Nat.le_of_ble_eq_true rfl) dX4_howMany_6 ?_
  have b1 : 2 ^ (w - 1) ≤ 512 := set_le gw2
  have b2 : 2 ≤ 2 ^ (w - 1) := set_ge gw1
  refine lv_istore_n (lv' := [(3, .int (nI (2 ^ (w - 1)))), (2, .int (nI ((flt (fun q => decide (co ci q < 1000000)) 0).length))), (0, .ref (b 8)), (1, .int (nI ci))]) S.1 S.2.1 dX4_howMany_9 rfl hl (by decide) rfl (fun ls hl => ?_)
  refine lv_iconst (v := nI 0) S.1 S.2.1 dX4_howMany_10 (by decide) ?_
  refine lv_istore (lv' := [(4, .int (nI 0)), (3, .int (nI (2 ^ (w - 1)))), (2, .int (nI ((flt (fun q => decide (co ci q < 1000000)) 0).length))), (0, .ref (b 8)), (1, .int (nI ci))]) S.1 S.2.1 dX4_howMany_11 hl (by decide) rfl (fun ls hl => ?_)
  have L13 : ∀ (f13 : Nat) (k : Nat), (k ≤ 2 ^ (w - 1)) → 2 ^ (w - 1) - k < f13 → ∀ (ls : Array Slot), lv_has ls 5 [(0, .ref (b 8)), (1, .int (nI ci)), (2, .int (nI ((flt (fun q => decide (co ci q < 1000000)) k).length))), (3, .int (nI (2 ^ (w - 1)))), (4, .int (nI k))] → W p l e (rmk 2) s m ([.ref (b 8), .int (nI ci)] : List Value).toArray below meth c s.heap [] 0 0 (MQ below (QcRead (nI ((flt (fun q => decide (co ci q < 1000000)) (2 ^ (w - 1))).length))) ([.ref (b 8), .int (nI ci)] : List Value).toArray s 0 0 (fun _ => False)) (F0 m 13 ls []) := by
    intro f13
    induction f13 with
    | zero =>
      intro k i1 hm
      exact absurd hm (Nat.not_lt_zero _)
    | succ f13 ih13 =>
      intro k i1 hm13 ls hl
      refine lv_iload S.1 S.2.1 dX4_howMany_13 (lv_at hl 4 rfl) ?_
      refine lv_iload_n S.1 S.2.1 dX4_howMany_15 rfl (lv_at hl 3 rfl) ?_
      refine ly_cmge (tgt := 40) S (nI_le1 (by omega) (by omega)) (nI_le2 (by omega) (by omega)) dX4_howMany_16 (by decide) (fun h3 => ?_) (fun h3 => ?_)
      · skip
        refine lv_iload_n S.1 S.2.1 dX4_howMany_40 rfl (lv_at hl 2 rfl) ?_
        exact rt_i S hr hlk (by rw [show k = 2 ^ (w - 1) by omega]) dX4_howMany_41
      · skip
        refine lv_aload_n S.1 S.2.1 dX4_howMany_19 rfl (lv_at hl 0 rfl) ?_
        refine lv_iload_n S.1 S.2.1 dX4_howMany_20 rfl (lv_at hl 1 rfl) ?_
        refine lv_iload S.1 S.2.1 dX4_howMany_21 (lv_at hl 4 rfl) ?_
        refine kX4_costOf S hI hG (by omega) (by omega) hCO tw_421 (rok (by decide)) hl.1 (Nat.le_of_ble_eq_true rfl) dX4_howMany_23 ?_
        have b4 : co ci k ≤ 1000000 := hCO _ _
        refine lv_ldc S.1 S.2.1 S.2.2.2.1 (S.2.2.2.2 _ tw_394) dX4_howMany_26 ?_
        refine ly_top (z := nI 1000000) (by decide) ?_
        refine ly_cmge (tgt := 34) S (nI_le1 (by omega) (by omega)) (nI_le2 (by omega) (by omega)) dX4_howMany_28 (by decide) (fun h5 => ?_) (fun h5 => ?_)
        · skip
          rw [show nI ((flt (fun q => decide (co ci q < 1000000)) k).length) = nI ((flt (fun q => decide (co ci q < 1000000)) (k + 1)).length) from congrArg nI (flt_f (p := (fun q => decide (co ci q < 1000000))) (by simp; omega))] at hl
          refine lv_iinc (v := nI (k + 1)) (lv' := [(4, .int (nI (k + 1))), (0, .ref (b 8)), (1, .int (nI ci)), (2, .int (nI ((flt (fun q => decide (co ci q < 1000000)) (k + 1)).length))), (3, .int (nI (2 ^ (w - 1))))]) S.1 S.2.1 dX4_howMany_34 hl (k := 4) rfl (nJ_in _ _) (by decide) rfl (fun ls hl => ?_)
          refine lv_goto (tgt := 13) S.1 S.2.1 dX4_howMany_37 (by decide) ?_
          exact ih13 (k + 1) (by omega) (by omega) _ (lv_sub hl [1, 2, 3, 4, 0] rfl)
        · skip
          refine lv_iinc (v := nI (((flt (fun q => decide (co ci q < 1000000)) k).length) + 1)) (lv' := [(2, .int (nI (((flt (fun q => decide (co ci q < 1000000)) k).length) + 1))), (0, .ref (b 8)), (1, .int (nI ci)), (3, .int (nI (2 ^ (w - 1)))), (4, .int (nI k))]) S.1 S.2.1 dX4_howMany_31 hl (k := 2) rfl (nJ_in _ _) (by decide) rfl (fun ls hl => ?_)
          rw [show nI ((flt (fun q => decide (co ci q < 1000000)) k).length + 1) = nI ((flt (fun q => decide (co ci q < 1000000)) (k + 1)).length) from congrArg nI (flt_t (p := (fun q => decide (co ci q < 1000000))) (by simp; omega))] at hl
          refine lv_iinc (v := nI (k + 1)) (lv' := [(4, .int (nI (k + 1))), (2, .int (nI ((flt (fun q => decide (co ci q < 1000000)) (k + 1)).length))), (0, .ref (b 8)), (1, .int (nI ci)), (3, .int (nI (2 ^ (w - 1))))]) S.1 S.2.1 dX4_howMany_34 hl (k := 4) rfl (nJ_in _ _) (by decide) rfl (fun ls hl => ?_)
          refine lv_goto (tgt := 13) S.1 S.2.1 dX4_howMany_37 (by decide) ?_
          exact ih13 (k + 1) (by omega) (by omega) _ (lv_sub hl [2, 3, 1, 4, 0] rfl)
  exact L13 _ 0 (Nat.zero_le _) (Nat.lt_succ_self _) _ (lv_sub hl [3, 4, 2, 1, 0] rfl)
theorem kX4_howMany {p : Program} {l : Launch} {e : Env} {R : Room} {s : State} {m : MethodId} {args : Array Value} {below : List Frame} {meth : Method} {c : Code} {H : Heap} {locs : List Loc} {cells slots : Nat} {Q : State → Prop} {cc : ByteArray} {nL index pc : Nat} {own : String} {ls : Array Slot} {rest : List Value} {D : va_G} {K : Nat → ClassId} {b : Nat → Nat} {w n lap : Nat} {op mu ba la en : Nat → Nat} {pr : Nat → Option Nat} {fr : Bool} {co : Nat → Nat → Nat} {cw cj : Nat → Int64} {cl : Nat} {rv : Int64} {rc : Nat} {pj : Nat → Nat → Nat} {pw ch : Nat → Nat} {pl lc : Nat} {tl : Nat → Nat} {ci : Nat} (S : CallFix p m c cc nL s args lw_tb own) (hI : PI D K (cW K b w n lap op mu ba la en pr fr co cw cj cl rv rc pj pw ch pl lc tl) s H) (hG : GOK w n lap op mu ba la en pr) (hc : ci < 8) (hCO : COK co) (hlink : Cond.methodLink own index yX4_howMany ∈ lw_tb) (hR : RO 2 R cells slots) (hsz : ls.size = nL) (hW : (rest.map fun v => v.category).sum ≤ 8) (hdg : decode cc pc = .ok (.invokevirtual index, 3)) (kk : W p l e R s m args below meth c H locs cells slots Q (F0 m (pc + 3) ls (.int (nI ((flt (fun q => decide (co ci q < 1000000)) (2 ^ (w - 1))).length)) :: rest))) : W p l e R s m args below meth c H locs cells slots Q (F0 m pc ls (.int (nI ci) :: .ref (b 8) :: rest)) :=
  kV (As := [.int (nI ci)]) (b := b 8) S (mX4_howMany l hG hc hCO) hlink tw_413 tw_414 tw_46 tw_415 (by show _ ∧ _ ∧ _ = some 1; decide +kernel) (by decide) hR blP (piU hI) (va_recv hI.2 hI.1 (ci := 4) (q0 := 8) rfl rfl) hsz rfl hW hdg kk

set_option maxHeartbeats 4000000 in
set_option maxRecDepth 100000 in
theorem mX4_jointsOf (l : Launch) {D : va_G} {K : Nat → ClassId} {b : Nat → Nat} {w n lap : Nat} {op mu ba la en : Nat → Nat} {pr : Nat → Option Nat} {fr : Bool} {co : Nat → Nat → Nat} {cw cj : Nat → Int64} {cl : Nat} {rv : Int64} {rc : Nat} {pj : Nat → Nat → Nat} {pw ch : Nat → Nat} {pl lc : Nat} {tl : Nat → Nat} {ci : Nat} {z : Nat} (hG : GOK w n lap op mu ba la en pr) (hc : ci < 8) (hz : z ≤ 511) (hCO : COK co) : Met l yX4_jointsOf (TWd yX4_jointsOf cX4_jointsOf 6 (some .int)) (rmk 2) (va_Pc [.ref (b 8), .int (nI ci), .int (nI z)] (fun U => PI D K (cW K b w n lap op mu ba la en pr fr co cw cj cl rv rc pj pw ch pl lc tl) U U.heap)) (QcRead (rwG (fun q => decide (co ci q < 1000000)) (2 ^ (w - 1)) z)) 0 0 (fun _ => False) := by
  refine mt_of (by decide +kernel) (Nat.le_of_ble_eq_true rfl) ?_
  intro p e s m below meth c S hr hlk hI ls hl
  have S : CallFix p m c cX4_jointsOf 6 s ([.ref (b 8), .int (nI ci), .int (nI z)] : List Value).toArray lw_tb RX4 := S
  have hl : lv_has ls 6 [(0, .ref (b 8)), (1, .int (nI ci)), (2, .int (nI z))] := hl
  obtain ⟨gw1, gw2, gn, gl1, gl2, gop, gmu, gba, gla, gen, gpr, gop2, gmu2, gba2, gla2, gme, gbe, gle, gee⟩ := id hG
  refine lv_iconst (v := nI 0) S.1 S.2.1 dX4_jointsOf_0 (by decide) ?_
  refine lv_istore_n (lv' := [(3, .int (nI 0)), (0, .ref (b 8)), (1, .int (nI ci)), (2, .int (nI z))]) S.1 S.2.1 dX4_jointsOf_1 rfl hl (by decide) rfl (fun ls hl => ?_)
  refine lv_aload_n S.1 S.2.1 dX4_jointsOf_2 rfl (lv_at hl 1 rfl) ?_
  refine g4 S hI 8 rfl 0 (by decide) tw_155 rfl dX4_jointsOf_3 ?_
  refine kX6_sets S hI hG tw_416 (rok (by decide)) hl.1 (Nat.le_of_ble_eq_true rfl) dX4_jointsOf_6 ?_
  have b1 : 2 ^ (w - 1) ≤ 512 := set_le gw2
  have b2 : 2 ≤ 2 ^ (w - 1) := set_ge gw1
  refine lv_istore (lv' := [(4, .int (nI (2 ^ (w - 1)))), (3, .int (nI 0)), (0, .ref (b 8)), (1, .int (nI ci)), (2, .int (nI z))]) S.1 S.2.1 dX4_jointsOf_9 hl (by decide) rfl (fun ls hl => ?_)
  refine lv_iconst (v := nI 0) S.1 S.2.1 dX4_jointsOf_11 (by decide) ?_
  refine lv_istore (lv' := [(5, .int (nI 0)), (4, .int (nI (2 ^ (w - 1)))), (3, .int (nI 0)), (0, .ref (b 8)), (1, .int (nI ci)), (2, .int (nI z))]) S.1 S.2.1 dX4_jointsOf_12 hl (by decide) rfl (fun ls hl => ?_)
  have L14 : ∀ (f14 : Nat) (cn : Nat) (k : Nat), (k ≤ 2 ^ (w - 1)) → (cn = (flt (fun q => decide (co ci q < 1000000)) k).length) → (cn ≤ z) → 2 ^ (w - 1) - k < f14 → ∀ (ls : Array Slot), lv_has ls 6 [(0, .ref (b 8)), (1, .int (nI ci)), (2, .int (nI z)), (3, .int (nI cn)), (4, .int (nI (2 ^ (w - 1)))), (5, .int (nI k))] → W p l e (rmk 2) s m ([.ref (b 8), .int (nI ci), .int (nI z)] : List Value).toArray below meth c s.heap [] 0 0 (MQ below (QcRead (rwG (fun q => decide (co ci q < 1000000)) (2 ^ (w - 1)) z)) ([.ref (b 8), .int (nI ci), .int (nI z)] : List Value).toArray s 0 0 (fun _ => False)) (F0 m 14 ls []) := by
    intro f14
    induction f14 with
    | zero =>
      intro cn k i1 i2 i3 hm
      exact absurd hm (Nat.not_lt_zero _)
    | succ f14 ih14 =>
      intro cn k i1 i2 i3 hm14 ls hl
      refine lv_iload S.1 S.2.1 dX4_jointsOf_14 (lv_at hl 5 rfl) ?_
      refine lv_iload S.1 S.2.1 dX4_jointsOf_16 (lv_at hl 4 rfl) ?_
      refine ly_cmge (tgt := 52) S (nI_le1 (by omega) (by omega)) (nI_le2 (by omega) (by omega)) dX4_jointsOf_18 (by decide) (fun h3 => ?_) (fun h3 => ?_)
      · skip
        refine lv_bipush (v := (-9)) S.1 S.2.1 dX4_jointsOf_52 (by decide) ?_
        exact rt_i S hr hlk (rwG_0 (p := (fun q => decide (co ci q < 1000000))) (by rw [show 2 ^ (w - 1) = k by omega]; omega)) dX4_jointsOf_54
      · skip
        refine lv_aload_n S.1 S.2.1 dX4_jointsOf_21 rfl (lv_at hl 0 rfl) ?_
        refine lv_iload_n S.1 S.2.1 dX4_jointsOf_22 rfl (lv_at hl 1 rfl) ?_
        refine lv_iload S.1 S.2.1 dX4_jointsOf_23 (lv_at hl 5 rfl) ?_
        refine kX4_costOf S hI hG (by omega) (by omega) hCO tw_421 (rok (by decide)) hl.1 (Nat.le_of_ble_eq_true rfl) dX4_jointsOf_25 ?_
        have b4 : co ci k ≤ 1000000 := hCO _ _
        refine lv_ldc S.1 S.2.1 S.2.2.2.1 (S.2.2.2.2 _ tw_394) dX4_jointsOf_28 ?_
        refine ly_top (z := nI 1000000) (by decide) ?_
        refine ly_cmge (tgt := 46) S (nI_le1 (by omega) (by omega)) (nI_le2 (by omega) (by omega)) dX4_jointsOf_30 (by decide) (fun h5 => ?_) (fun h5 => ?_)
        · skip
          refine lv_iinc (v := nI (k + 1)) (lv' := [(5, .int (nI (k + 1))), (0, .ref (b 8)), (1, .int (nI ci)), (2, .int (nI z)), (3, .int (nI cn)), (4, .int (nI (2 ^ (w - 1))))]) S.1 S.2.1 dX4_jointsOf_46 hl (k := 5) rfl (nJ_in _ _) (by decide) rfl (fun ls hl => ?_)
          refine lv_goto (tgt := 14) S.1 S.2.1 dX4_jointsOf_49 (by decide) ?_
          exact ih14 cn (k + 1) (by omega) (by rw [i2]; exact flt_f (p := (fun q => decide (co ci q < 1000000))) (by simp; omega)) (by omega) (by omega) _ (lv_sub hl [1, 2, 3, 4, 5, 0] rfl)
        · skip
          refine lv_iload_n S.1 S.2.1 dX4_jointsOf_33 rfl (lv_at hl 3 rfl) ?_
          refine lv_iload_n S.1 S.2.1 dX4_jointsOf_34 rfl (lv_at hl 2 rfl) ?_
          refine ly_cmne (tgt := 43) S (nI_e2 (by omega) (by omega)) (nI_e1 (by omega) (by omega)) dX4_jointsOf_35 (by decide) (fun h6 => ?_) (fun h6 => ?_)
          · skip
            refine lv_iinc (v := nI (cn + 1)) (lv' := [(3, .int (nI (cn + 1))), (0, .ref (b 8)), (1, .int (nI ci)), (2, .int (nI z)), (4, .int (nI (2 ^ (w - 1)))), (5, .int (nI k))]) S.1 S.2.1 dX4_jointsOf_43 hl (k := 3) rfl (nJ_in _ _) (by decide) rfl (fun ls hl => ?_)
            refine lv_iinc (v := nI (k + 1)) (lv' := [(5, .int (nI (k + 1))), (3, .int (nI (cn + 1))), (0, .ref (b 8)), (1, .int (nI ci)), (2, .int (nI z)), (4, .int (nI (2 ^ (w - 1))))]) S.1 S.2.1 dX4_jointsOf_46 hl (k := 5) rfl (nJ_in _ _) (by decide) rfl (fun ls hl => ?_)
            refine lv_goto (tgt := 14) S.1 S.2.1 dX4_jointsOf_49 (by decide) ?_
            exact ih14 (cn + 1) (k + 1) (by omega) (by rw [i2]; exact flt_t (p := (fun q => decide (co ci q < 1000000))) (by simp; omega)) (by omega) (by omega) _ (lv_sub hl [2, 3, 4, 1, 5, 0] rfl)
          · skip
            refine lv_iload S.1 S.2.1 dX4_jointsOf_38 (lv_at hl 5 rfl) ?_
            refine lv_iconst (v := nI 1) S.1 S.2.1 dX4_jointsOf_40 (by decide) ?_
            refine lv_ishl S.1 S.2.1 dX4_jointsOf_41 ?_
            refine ly_top (z := nI (k <<< 1)) (nI_shl (by omega) (by rw [Nat.shiftLeft_eq]; omega)) ?_
            refine ly_top (z := (nI (2 * k))) (by rw [Nat.shiftLeft_eq, Nat.mul_comm]) ?_
            exact rt_i S hr hlk (rwG_1 (p := (fun q => decide (co ci q < 1000000))) (by omega) (by simp; omega) (by omega)) dX4_jointsOf_42
  exact L14 _ 0 0 (Nat.zero_le _) rfl (by omega) (Nat.lt_succ_self _) _ (lv_sub hl [3, 4, 5, 2, 1, 0] rfl)
theorem kX4_jointsOf {p : Program} {l : Launch} {e : Env} {R : Room} {s : State} {m : MethodId} {args : Array Value} {below : List Frame} {meth : Method} {c : Code} {H : Heap} {locs : List Loc} {cells slots : Nat} {Q : State → Prop} {cc : ByteArray} {nL index pc : Nat} {own : String} {ls : Array Slot} {rest : List Value} {D : va_G} {K : Nat → ClassId} {b : Nat → Nat} {w n lap : Nat} {op mu ba la en : Nat → Nat} {pr : Nat → Option Nat} {fr : Bool} {co : Nat → Nat → Nat} {cw cj : Nat → Int64} {cl : Nat} {rv : Int64} {rc : Nat} {pj : Nat → Nat → Nat} {pw ch : Nat → Nat} {pl lc : Nat} {tl : Nat → Nat} {ci : Nat} {z : Nat} (S : CallFix p m c cc nL s args lw_tb own) (hI : PI D K (cW K b w n lap op mu ba la en pr fr co cw cj cl rv rc pj pw ch pl lc tl) s H) (hG : GOK w n lap op mu ba la en pr) (hc : ci < 8) (hz : z ≤ 511) (hCO : COK co) (hlink : Cond.methodLink own index yX4_jointsOf ∈ lw_tb) (hR : RO 2 R cells slots) (hsz : ls.size = nL) (hW : (rest.map fun v => v.category).sum ≤ 8) (hdg : decode cc pc = .ok (.invokevirtual index, 3)) (kk : W p l e R s m args below meth c H locs cells slots Q (F0 m (pc + 3) ls (.int (rwG (fun q => decide (co ci q < 1000000)) (2 ^ (w - 1)) z) :: rest))) : W p l e R s m args below meth c H locs cells slots Q (F0 m pc ls (.int (nI z) :: .int (nI ci) :: .ref (b 8) :: rest)) :=
  kV (As := [.int (nI ci), .int (nI z)]) (b := b 8) S (mX4_jointsOf l hG hc hz hCO) hlink tw_426 tw_427 tw_46 tw_428 (by show _ ∧ _ ∧ _ = some 2; decide +kernel) (by decide) hR blP (piU hI) (va_recv hI.2 hI.1 (ci := 4) (q0 := 8) rfl rfl) hsz rfl hW hdg kk
