set_option maxHeartbeats 4000000 in
set_option maxRecDepth 100000 in
theorem mX7_width_a (l : Launch) {D : va_G} {K : Nat → ClassId} {b : Nat → Nat} {w n lap : Nat} {op mu ba la en : Nat → Nat} {pr : Nat → Option Nat} {fr : Bool} {co : Nat → Nat → Nat} {cw cj : Nat → Int64} {cl : Nat} {rv : Int64} {rc : Nat} {pj : Nat → Nat → Nat} {pw ch : Nat → Nat} {pl lc : Nat} {tl : Nat → Nat} {v : Int32} (hG : GOK w n lap op mu ba la en pr) (hv : wiI v (nI 2) (nI 10) = false) : Met l yX7_width (TWd yX7_width cX7_width 2 (some .int)) (rmk 2) (va_Pc [.ref (b 0), .int v] (fun U => PI D K (cW K b w n lap op mu ba la en pr fr co cw cj cl rv rc pj pw ch pl lc tl) U U.heap)) (QcRead ((-2))) 0 0 (fun _ => False) := by
  refine mt_of (by decide +kernel) (Nat.le_of_ble_eq_true rfl) ?_
  intro p e s m below meth c S hr hlk hI ls hl
  have S : CallFix p m c cX7_width 2 s ([.ref (b 0), .int v] : List Value).toArray lw_tb RX7 := S
  have hl : lv_has ls 2 [(0, .ref (b 0)), (1, .int v)] := hl
  obtain ⟨gw1, gw2, gn, gl1, gl2, gop, gmu, gba, gla, gen, gpr, gop2, gmu2, gba2, gla2, gme, gbe, gle, gee⟩ := id hG
  refine lv_iload_n S.1 S.2.1 dX7_width_0 rfl (lv_at hl 1 rfl) ?_
  refine lv_iconst (v := nI 2) S.1 S.2.1 dX7_width_1 (by decide) ?_
  refine ly_cmlt (tgt := 11) S (fun q => q) (fun q => q) dX7_width_2 (by decide) (fun h1 => ?_) (fun h1 => ?_)
  · skip
    refine lv_bipush (v := (-2)) S.1 S.2.1 dX7_width_11 (by decide) ?_
    exact rt_i S hr hlk rfl dX7_width_13
  · skip
    refine lv_iload_n S.1 S.2.1 dX7_width_5 rfl (lv_at hl 1 rfl) ?_
    refine lv_bipush (v := nI 10) S.1 S.2.1 dX7_width_6 (by decide) ?_
    refine ly_cmle (tgt := 14) S (fun q => q) (fun q => q) dX7_width_8 (by decide) (fun h2 => ?_) (fun h2 => ?_)
    · skip
      exact absurd (wiI_t h1 (Int32.not_lt.mpr h2)) (by rw [hv]; decide)
    · skip
      refine lv_bipush (v := (-2)) S.1 S.2.1 dX7_width_11 (by decide) ?_
      exact rt_i S hr hlk rfl dX7_width_13
theorem kX7_width_a {p : Program} {l : Launch} {e : Env} {R : Room} {s : State} {m : MethodId} {args : Array Value} {below : List Frame} {meth : Method} {c : Code} {H : Heap} {locs : List Loc} {cells slots : Nat} {Q : State → Prop} {cc : ByteArray} {nL index pc : Nat} {own : String} {ls : Array Slot} {rest : List Value} {D : va_G} {K : Nat → ClassId} {b : Nat → Nat} {w n lap : Nat} {op mu ba la en : Nat → Nat} {pr : Nat → Option Nat} {fr : Bool} {co : Nat → Nat → Nat} {cw cj : Nat → Int64} {cl : Nat} {rv : Int64} {rc : Nat} {pj : Nat → Nat → Nat} {pw ch : Nat → Nat} {pl lc : Nat} {tl : Nat → Nat} {v : Int32} (S : CallFix p m c cc nL s args lw_tb own) (hI : PI D K (cW K b w n lap op mu ba la en pr fr co cw cj cl rv rc pj pw ch pl lc tl) s H) (hG : GOK w n lap op mu ba la en pr) (hv : wiI v (nI 2) (nI 10) = false) (hlink : Cond.methodLink own index yX7_width ∈ lw_tb) (hR : RO 2 R cells slots) (hsz : ls.size = nL) (hW : (rest.map fun v => v.category).sum ≤ 8) (hdg : decode cc pc = .ok (.invokevirtual index, 3)) (kk : W p l e R s m args below meth c H locs cells slots Q (F0 m (pc + 3) ls (.int ((-2)) :: rest))) : W p l e R s m args below meth c H locs cells slots Q (F0 m pc ls (.int v :: .ref (b 0) :: rest)) :=
  kV (As := [.int v]) (b := b 0) S (mX7_width_a l hG hv) hlink tw_253 tw_254 tw_42 tw_255 (by show _ ∧ _ ∧ _ = some 1; decide +kernel) (by decide) hR blP (piU hI) (va_recv hI.2 hI.1 (ci := 7) (q0 := 0) rfl rfl) hsz rfl hW hdg kk

set_option maxHeartbeats 4000000 in
set_option maxRecDepth 100000 in
theorem mX7_width_b (l : Launch) {D : va_G} {K : Nat → ClassId} {b : Nat → Nat} {w n lap : Nat} {op mu ba la en : Nat → Nat} {pr : Nat → Option Nat} {fr : Bool} {co : Nat → Nat → Nat} {cw cj : Nat → Int64} {cl : Nat} {rv : Int64} {rc : Nat} {pj : Nat → Nat → Nat} {pw ch : Nat → Nat} {pl lc : Nat} {tl : Nat → Nat} {k : Nat} (hDis : Dis b 44) (hG : GOK w n lap op mu ba la en pr) (hVO : VOK w n op mu ba en pr fr co cl rv rc pj pw ch pl lc tl) (h1 : 2 ≤ k) (h2 : k ≤ 10) : Met l yX7_width (TWd yX7_width cX7_width 2 (some .int)) (rmk 2) (va_Pc [.ref (b 0), .int (nI k)] (fun U => PI D K (cW K b w n lap op mu ba la en pr fr co cw cj cl rv rc pj pw ch pl lc tl) U U.heap)) (QX D K (fun u : CSc => some (.int (nI 1))) (fun u => (cW K b k 0 lap op mu ba la en pr u.1 u.2.1 u.2.2.1 u.2.2.2.1 u.2.2.2.2.1 u.2.2.2.2.2.1 u.2.2.2.2.2.2.1 u.2.2.2.2.2.2.2.1 u.2.2.2.2.2.2.2.2.1 u.2.2.2.2.2.2.2.2.2.1 u.2.2.2.2.2.2.2.2.2.2.1 u.2.2.2.2.2.2.2.2.2.2.2.1 u.2.2.2.2.2.2.2.2.2.2.2.2)) (fun u => VOKu k 0 op mu ba en pr u) (adA b 44)) 0 0 (adA b 44) := by
  refine mt_of (by decide +kernel) (Nat.le_of_ble_eq_true rfl) ?_
  intro p e s m below meth c S hr hlk hI ls hl
  have S : CallFix p m c cX7_width 2 s ([.ref (b 0), .int (nI k)] : List Value).toArray lw_tb RX7 := S
  have hl : lv_has ls 2 [(0, .ref (b 0)), (1, .int (nI k))] := hl
  have hS : va_S (adA b 44) s.heap s.heap [] := va_S.rf
  obtain ⟨gw1, gw2, gn, gl1, gl2, gop, gmu, gba, gla, gen, gpr, gop2, gmu2, gba2, gla2, gme, gbe, gle, gee⟩ := id hG
  obtain ⟨v1, v2, v3, v4, v5, v6, v7, v8, v9, v10, v11⟩ := id hVO
  refine lv_iload_n S.1 S.2.1 dX7_width_0 rfl (lv_at hl 1 rfl) ?_
  refine lv_iconst (v := nI 2) S.1 S.2.1 dX7_width_1 (by decide) ?_
  refine ly_cmlt (tgt := 11) S (nI_l1 (by omega) (by omega)) (nI_l2 (by omega) (by omega)) dX7_width_2 (by decide) (fun h1 => ?_) (fun h1 => ?_)
  · skip
    exact absurd h1 (by omega)
  · skip
    refine lv_iload_n S.1 S.2.1 dX7_width_5 rfl (lv_at hl 1 rfl) ?_
    refine lv_bipush (v := nI 10) S.1 S.2.1 dX7_width_6 (by decide) ?_
    refine ly_cmle (tgt := 14) S (nI_le1 (by omega) (by omega)) (nI_le2 (by omega) (by omega)) dX7_width_8 (by decide) (fun h2 => ?_) (fun h2 => ?_)
    · skip
      refine lv_aload_n S.1 S.2.1 dX7_width_14 rfl (lv_at hl 0 rfl) ?_
      refine g7 S hI 0 rfl 0 (by decide) tw_236 rfl dX7_width_15 ?_
      refine lv_iload_n S.1 S.2.1 dX7_width_18 rfl (lv_at hl 1 rfl) ?_
      refine p6 (ws' := (cW K b k n lap op mu ba la en pr fr co cw cj cl rv rc pj pw ch pl lc tl)) S hI (cD hDis) hS 1 rfl 3 (by decide) tw_126 rfl rfl rfl rfl (Nat.le_of_ble_eq_true rfl) rfl dX7_width_19 (fun H locs hI hS => ?_)
      refine lv_aload_n S.1 S.2.1 dX7_width_22 rfl (lv_at hl 0 rfl) ?_
      refine g7 S hI 0 rfl 0 (by decide) tw_236 rfl dX7_width_23 ?_
      refine lv_iconst (v := nI 0) S.1 S.2.1 dX7_width_26 (by decide) ?_
      refine p6 (ws' := (cW K b k 0 lap op mu ba la en pr fr co cw cj cl rv rc pj pw ch pl lc tl)) S hI (cD hDis) hS 1 rfl 4 (by decide) tw_129 rfl rfl rfl rfl (Nat.le_of_ble_eq_true rfl) rfl dX7_width_27 (fun H locs hI hS => ?_)
      refine lv_aload_n S.1 S.2.1 dX7_width_30 rfl (lv_at hl 0 rfl) ?_
      refine kX7_forgetWhatCanBe S hI hS hDis tw_256 (rok (by decide)) hl.1 (Nat.le_of_ble_eq_true rfl) dX7_width_31 (fun u3 H locs hu3 hI hS _ _ => ?_)
      refine lv_iconst (v := nI 1) S.1 S.2.1 dX7_width_34 (by decide) ?_
      exact rw_i S hr hlk (false, co, cw, cj, 0, rv, rc, pj, pw, ch, 0, lc, tl) rfl (VOK_f hVO) hI hS dX7_width_35
    · skip
      exact absurd h2 (by omega)
theorem kX7_width_b {p : Program} {l : Launch} {e : Env} {R : Room} {s : State} {m : MethodId} {args : Array Value} {below : List Frame} {meth : Method} {c : Code} {H H0 : Heap} {locs : List Loc} {cells slots : Nat} {Q : State → Prop} {cc : ByteArray} {nL index pc : Nat} {own : String} {ls : Array Slot} {rest : List Value} {D : va_G} {K : Nat → ClassId} {b : Nat → Nat} {w n lap : Nat} {op mu ba la en : Nat → Nat} {pr : Nat → Option Nat} {fr : Bool} {co : Nat → Nat → Nat} {cw cj : Nat → Int64} {cl : Nat} {rv : Int64} {rc : Nat} {pj : Nat → Nat → Nat} {pw ch : Nat → Nat} {pl lc : Nat} {tl : Nat → Nat} {k : Nat} (S : CallFix p m c cc nL s args lw_tb own) (hI : PI D K (cW K b w n lap op mu ba la en pr fr co cw cj cl rv rc pj pw ch pl lc tl) s H) (hS : va_S (adA b 44) H0 H locs) (hDis : Dis b 44) (hG : GOK w n lap op mu ba la en pr) (hVO : VOK w n op mu ba en pr fr co cl rv rc pj pw ch pl lc tl) (h1 : 2 ≤ k) (h2 : k ≤ 10) (hlink : Cond.methodLink own index yX7_width ∈ lw_tb) (hR : RO 2 R cells slots) (hsz : ls.size = nL) (hW : (rest.map fun v => v.category).sum ≤ 8) (hdg : decode cc pc = .ok (.invokevirtual index, 3)) (kk : ∀ (u : CSc) (H1 : Heap) (locs1 : List Loc), (VOKu k 0 op mu ba en pr u) → PI D K (cW K b k 0 lap op mu ba la en pr u.1 u.2.1 u.2.2.1 u.2.2.2.1 u.2.2.2.2.1 u.2.2.2.2.2.1 u.2.2.2.2.2.2.1 u.2.2.2.2.2.2.2.1 u.2.2.2.2.2.2.2.2.1 u.2.2.2.2.2.2.2.2.2.1 u.2.2.2.2.2.2.2.2.2.2.1 u.2.2.2.2.2.2.2.2.2.2.2.1 u.2.2.2.2.2.2.2.2.2.2.2.2) s H1 → va_S (adA b 44) H0 H1 locs1 → H.size ≤ H1.size → (∀ q : Nat, q < H.size → ¬ (adA b 44) q → H1[q]? = H[q]?) → W p l e R s m args below meth c H1 locs1 cells slots Q (F0 m (pc + 3) ls ((.int (nI 1)) :: rest))) : W p l e R s m args below meth c H locs cells slots Q (F0 m pc ls (.int (nI k) :: .ref (b 0) :: rest)) :=
  kVX (As := [.int (nI k)]) (b := b 0) S (mX7_width_b l hDis hG hVO h1 h2) hlink tw_253 tw_254 tw_42 tw_255 (by show _ ∧ _ ∧ _ = some 1; decide +kernel) (by decide) hR blP (piU hI) (va_recv hI.2 hI.1 (ci := 7) (q0 := 0) rfl rfl) hS (fun _ h => h) hsz rfl hW hdg kk

set_option maxHeartbeats 4000000 in
set_option maxRecDepth 100000 in
theorem mX7_course_a (l : Launch) {D : va_G} {K : Nat → ClassId} {b : Nat → Nat} {w n lap : Nat} {op mu ba la en : Nat → Nat} {pr : Nat → Option Nat} {fr : Bool} {co : Nat → Nat → Nat} {cw cj : Nat → Int64} {cl : Nat} {rv : Int64} {rc : Nat} {pj : Nat → Nat → Nat} {pw ch : Nat → Nat} {pl lc : Nat} {tl : Nat → Nat} (hG : GOK w n lap op mu ba la en pr) (h8 : n = 8) : Met l yX7_course (TWd yX7_course cX7_course 2 (some .int)) (rmk 2) (va_Pc [.ref (b 0)] (fun U => PI D K (cW K b w n lap op mu ba la en pr fr co cw cj cl rv rc pj pw ch pl lc tl) U U.heap)) (QcRead ((-4))) 0 0 (fun _ => False) := by
  refine mt_of (by decide +kernel) (Nat.le_of_ble_eq_true rfl) ?_
  intro p e s m below meth c S hr hlk hI ls hl
  have S : CallFix p m c cX7_course 2 s ([.ref (b 0)] : List Value).toArray lw_tb RX7 := S
  have hl : lv_has ls 2 [(0, .ref (b 0))] := hl
  obtain ⟨gw1, gw2, gn, gl1, gl2, gop, gmu, gba, gla, gen, gpr, gop2, gmu2, gba2, gla2, gme, gbe, gle, gee⟩ := id hG
  refine lv_aload_n S.1 S.2.1 dX7_course_0 rfl (lv_at hl 0 rfl) ?_
  refine g7 S hI 0 rfl 0 (by decide) tw_236 rfl dX7_course_1 ?_
  refine g6 S hI 1 rfl 4 (by decide) tw_129 rfl dX7_course_4 ?_
  refine lv_bipush (v := nI 8) S.1 S.2.1 dX7_course_7 (by decide) ?_
  refine ly_cmlt (tgt := 15) S (nI_l1 (by omega) (by omega)) (nI_l2 (by omega) (by omega)) dX7_course_9 (by decide) (fun h1 => ?_) (fun h1 => ?_)
  · skip
    exact absurd h1 (by omega)
  · skip
    refine lv_bipush (v := (-4)) S.1 S.2.1 dX7_course_12 (by decide) ?_
    exact rt_i S hr hlk rfl dX7_course_14
theorem kX7_course_a {p : Program} {l : Launch} {e : Env} {R : Room} {s : State} {m : MethodId} {args : Array Value} {below : List Frame} {meth : Method} {c : Code} {H : Heap} {locs : List Loc} {cells slots : Nat} {Q : State → Prop} {cc : ByteArray} {nL index pc : Nat} {own : String} {ls : Array Slot} {rest : List Value} {D : va_G} {K : Nat → ClassId} {b : Nat → Nat} {w n lap : Nat} {op mu ba la en : Nat → Nat} {pr : Nat → Option Nat} {fr : Bool} {co : Nat → Nat → Nat} {cw cj : Nat → Int64} {cl : Nat} {rv : Int64} {rc : Nat} {pj : Nat → Nat → Nat} {pw ch : Nat → Nat} {pl lc : Nat} {tl : Nat → Nat} (S : CallFix p m c cc nL s args lw_tb own) (hI : PI D K (cW K b w n lap op mu ba la en pr fr co cw cj cl rv rc pj pw ch pl lc tl) s H) (hG : GOK w n lap op mu ba la en pr) (h8 : n = 8) (hlink : Cond.methodLink own index yX7_course ∈ lw_tb) (hR : RO 2 R cells slots) (hsz : ls.size = nL) (hW : (rest.map fun v => v.category).sum ≤ 8) (hdg : decode cc pc = .ok (.invokevirtual index, 3)) (kk : W p l e R s m args below meth c H locs cells slots Q (F0 m (pc + 3) ls (.int ((-4)) :: rest))) : W p l e R s m args below meth c H locs cells slots Q (F0 m pc ls (.ref (b 0) :: rest)) :=
  kV (As := []) (b := b 0) S (mX7_course_a l hG h8) hlink tw_273 tw_274 tw_42 tw_275 (by show _ ∧ _ ∧ _ = some 0; decide +kernel) (by decide) hR blP (piU hI) (va_recv hI.2 hI.1 (ci := 7) (q0 := 0) rfl rfl) hsz rfl hW hdg kk

set_option maxHeartbeats 4000000 in
set_option maxRecDepth 100000 in
theorem mX7_course_b (l : Launch) {D : va_G} {K : Nat → ClassId} {b : Nat → Nat} {w n lap : Nat} {op mu ba la en : Nat → Nat} {pr : Nat → Option Nat} {fr : Bool} {co : Nat → Nat → Nat} {cw cj : Nat → Int64} {cl : Nat} {rv : Int64} {rc : Nat} {pj : Nat → Nat → Nat} {pw ch : Nat → Nat} {pl lc : Nat} {tl : Nat → Nat} (hDis : Dis b 44) (hG : GOK w n lap op mu ba la en pr) (hVO : VOK w n op mu ba en pr fr co cl rv rc pj pw ch pl lc tl) (h8 : n < 8) : Met l yX7_course (TWd yX7_course cX7_course 2 (some .int)) (rmk 2) (va_Pc [.ref (b 0)] (fun U => PI D K (cW K b w n lap op mu ba la en pr fr co cw cj cl rv rc pj pw ch pl lc tl) U U.heap)) (QX D K (fun u : CSc => some (.int (nI n))) (fun u => (cW K b w (n + 1) lap (va_up op n 0) (va_up mu n 0) (va_up ba n 0) (va_up la n 0) en pr u.1 u.2.1 u.2.2.1 u.2.2.2.1 u.2.2.2.2.1 u.2.2.2.2.2.1 u.2.2.2.2.2.2.1 u.2.2.2.2.2.2.2.1 u.2.2.2.2.2.2.2.2.1 u.2.2.2.2.2.2.2.2.2.1 u.2.2.2.2.2.2.2.2.2.2.1 u.2.2.2.2.2.2.2.2.2.2.2.1 u.2.2.2.2.2.2.2.2.2.2.2.2)) (fun u => VOKu w (n + 1) (va_up op n 0) (va_up mu n 0) (va_up ba n 0) en pr u) (adA b 44)) 0 0 (adA b 44) := by
  refine mt_of (by decide +kernel) (Nat.le_of_ble_eq_true rfl) ?_
  intro p e s m below meth c S hr hlk hI ls hl
  have S : CallFix p m c cX7_course 2 s ([.ref (b 0)] : List Value).toArray lw_tb RX7 := S
  have hl : lv_has ls 2 [(0, .ref (b 0))] := hl
  have hS : va_S (adA b 44) s.heap s.heap [] := va_S.rf
  obtain ⟨gw1, gw2, gn, gl1, gl2, gop, gmu, gba, gla, gen, gpr, gop2, gmu2, gba2, gla2, gme, gbe, gle, gee⟩ := id hG
  obtain ⟨v1, v2, v3, v4, v5, v6, v7, v8, v9, v10, v11⟩ := id hVO
  refine lv_aload_n S.1 S.2.1 dX7_course_0 rfl (lv_at hl 0 rfl) ?_
  refine g7 S hI 0 rfl 0 (by decide) tw_236 rfl dX7_course_1 ?_
  refine g6 S hI 1 rfl 4 (by decide) tw_129 rfl dX7_course_4 ?_
  refine lv_bipush (v := nI 8) S.1 S.2.1 dX7_course_7 (by decide) ?_
  refine ly_cmlt (tgt := 15) S (nI_l1 (by omega) (by omega)) (nI_l2 (by omega) (by omega)) dX7_course_9 (by decide) (fun h1 => ?_) (fun h1 => ?_)
  · skip
    refine lv_aload_n S.1 S.2.1 dX7_course_15 rfl (lv_at hl 0 rfl) ?_
    refine g7 S hI 0 rfl 0 (by decide) tw_236 rfl dX7_course_16 ?_
    refine g6 S hI 1 rfl 4 (by decide) tw_129 rfl dX7_course_19 ?_
    refine lv_istore_n (lv' := [(1, .int (nI n)), (0, .ref (b 0))]) S.1 S.2.1 dX7_course_22 rfl hl (by decide) rfl (fun ls hl => ?_)
    refine lv_aload_n S.1 S.2.1 dX7_course_23 rfl (lv_at hl 1 rfl) ?_
    refine g7 S hI 0 rfl 0 (by decide) tw_236 rfl dX7_course_24 ?_
    refine lv_iload_n S.1 S.2.1 dX7_course_27 rfl (lv_at hl 0 rfl) ?_
    refine lv_iconst (v := nI 1) S.1 S.2.1 dX7_course_28 (by decide) ?_
    refine lv_iadd S.1 S.2.1 dX7_course_29 ?_
    refine ly_top (z := nI (n + 1)) (nI_add _ _) ?_
    refine p6 (ws' := (cW K b w (n + 1) lap op mu ba la en pr fr co cw cj cl rv rc pj pw ch pl lc tl)) S hI (cD hDis) hS 1 rfl 4 (by decide) tw_129 rfl rfl rfl rfl (Nat.le_of_ble_eq_true rfl) rfl dX7_course_30 (fun H locs hI hS => ?_)
    refine lv_aload_n S.1 S.2.1 dX7_course_33 rfl (lv_at hl 1 rfl) ?_
    refine g7 S hI 0 rfl 0 (by decide) tw_236 rfl dX7_course_34 ?_
    refine lv_iload_n S.1 S.2.1 dX7_course_37 rfl (lv_at hl 0 rfl) ?_
    refine kX6_at_c S hI (by omega) (by omega) tw_276 (rok (by decide)) hl.1 (Nat.le_of_ble_eq_true rfl) dX7_course_38 ?_
    refine kX2_clear S hI hS hDis (by omega) (by omega) tw_280 (rok (by decide)) hl.1 (Nat.le_of_ble_eq_true rfl) dX7_course_41 (fun u2 H locs hu2 hI hS _ _ => ?_)
    refine lv_aload_n S.1 S.2.1 dX7_course_44 rfl (lv_at hl 1 rfl) ?_
    refine kX7_forgetWhatCanBe S hI hS hDis tw_256 (rok (by decide)) hl.1 (Nat.le_of_ble_eq_true rfl) dX7_course_45 (fun u3 H locs hu3 hI hS _ _ => ?_)
    refine lv_iload_n S.1 S.2.1 dX7_course_48 rfl (lv_at hl 0 rfl) ?_
    exact rw_i S hr hlk (false, co, cw, cj, 0, rv, rc, pj, pw, ch, 0, lc, tl) rfl (VOK_f hVO) hI hS dX7_course_49
  · skip
    exact absurd h1 (by omega)
theorem kX7_course_b {p : Program} {l : Launch} {e : Env} {R : Room} {s : State} {m : MethodId} {args : Array Value} {below : List Frame} {meth : Method} {c : Code} {H H0 : Heap} {locs : List Loc} {cells slots : Nat} {Q : State → Prop} {cc : ByteArray} {nL index pc : Nat} {own : String} {ls : Array Slot} {rest : List Value} {D : va_G} {K : Nat → ClassId} {b : Nat → Nat} {w n lap : Nat} {op mu ba la en : Nat → Nat} {pr : Nat → Option Nat} {fr : Bool} {co : Nat → Nat → Nat} {cw cj : Nat → Int64} {cl : Nat} {rv : Int64} {rc : Nat} {pj : Nat → Nat → Nat} {pw ch : Nat → Nat} {pl lc : Nat} {tl : Nat → Nat} (S : CallFix p m c cc nL s args lw_tb own) (hI : PI D K (cW K b w n lap op mu ba la en pr fr co cw cj cl rv rc pj pw ch pl lc tl) s H) (hS : va_S (adA b 44) H0 H locs) (hDis : Dis b 44) (hG : GOK w n lap op mu ba la en pr) (hVO : VOK w n op mu ba en pr fr co cl rv rc pj pw ch pl lc tl) (h8 : n < 8) (hlink : Cond.methodLink own index yX7_course ∈ lw_tb) (hR : RO 2 R cells slots) (hsz : ls.size = nL) (hW : (rest.map fun v => v.category).sum ≤ 8) (hdg : decode cc pc = .ok (.invokevirtual index, 3)) (kk : ∀ (u : CSc) (H1 : Heap) (locs1 : List Loc), (VOKu w (n + 1) (va_up op n 0) (va_up mu n 0) (va_up ba n 0) en pr u) → PI D K (cW K b w (n + 1) lap (va_up op n 0) (va_up mu n 0) (va_up ba n 0) (va_up la n 0) en pr u.1 u.2.1 u.2.2.1 u.2.2.2.1 u.2.2.2.2.1 u.2.2.2.2.2.1 u.2.2.2.2.2.2.1 u.2.2.2.2.2.2.2.1 u.2.2.2.2.2.2.2.2.1 u.2.2.2.2.2.2.2.2.2.1 u.2.2.2.2.2.2.2.2.2.2.1 u.2.2.2.2.2.2.2.2.2.2.2.1 u.2.2.2.2.2.2.2.2.2.2.2.2) s H1 → va_S (adA b 44) H0 H1 locs1 → H.size ≤ H1.size → (∀ q : Nat, q < H.size → ¬ (adA b 44) q → H1[q]? = H[q]?) → W p l e R s m args below meth c H1 locs1 cells slots Q (F0 m (pc + 3) ls ((.int (nI n)) :: rest))) : W p l e R s m args below meth c H locs cells slots Q (F0 m pc ls (.ref (b 0) :: rest)) :=
  kVX (As := []) (b := b 0) S (mX7_course_b l hDis hG hVO h8) hlink tw_273 tw_274 tw_42 tw_275 (by show _ ∧ _ ∧ _ = some 0; decide +kernel) (by decide) hR blP (piU hI) (va_recv hI.2 hI.1 (ci := 7) (q0 := 0) rfl rfl) hS (fun _ h => h) hsz rfl hW hdg kk

set_option maxHeartbeats 4000000 in
set_option maxRecDepth 100000 in
theorem mX7_take_a (l : Launch) {D : va_G} {K : Nat → ClassId} {b : Nat → Nat} {w n lap : Nat} {op mu ba la en : Nat → Nat} {pr : Nat → Option Nat} {fr : Bool} {co : Nat → Nat → Nat} {cw cj : Nat → Int64} {cl : Nat} {rv : Int64} {rc : Nat} {pj : Nat → Nat → Nat} {pw ch : Nat → Nat} {pl lc : Nat} {tl : Nat → Nat} (hG : GOK w n lap op mu ba la en pr) (h0 : n = 0) : Met l yX7_take (TWd yX7_take cX7_take 1 (some .int)) (rmk 2) (va_Pc [.ref (b 0)] (fun U => PI D K (cW K b w n lap op mu ba la en pr fr co cw cj cl rv rc pj pw ch pl lc tl) U U.heap)) (QcRead ((-3))) 0 0 (fun _ => False) := by
  refine mt_of (by decide +kernel) (Nat.le_of_ble_eq_true rfl) ?_
  intro p e s m below meth c S hr hlk hI ls hl
  have S : CallFix p m c cX7_take 1 s ([.ref (b 0)] : List Value).toArray lw_tb RX7 := S
  have hl : lv_has ls 1 [(0, .ref (b 0))] := hl
  obtain ⟨gw1, gw2, gn, gl1, gl2, gop, gmu, gba, gla, gen, gpr, gop2, gmu2, gba2, gla2, gme, gbe, gle, gee⟩ := id hG
  refine lv_aload_n S.1 S.2.1 dX7_take_0 rfl (lv_at hl 0 rfl) ?_
  refine g7 S hI 0 rfl 0 (by decide) tw_236 rfl dX7_take_1 ?_
  refine g6 S hI 1 rfl 4 (by decide) tw_129 rfl dX7_take_4 ?_
  refine ly_ifgt (tgt := 13) S (nI_p1 (by omega)) (nI_p2 (by omega)) dX7_take_7 (by decide) (fun h1 => ?_) (fun h1 => ?_)
  · skip
    exact absurd h1 (by omega)
  · skip
    refine lv_bipush (v := (-3)) S.1 S.2.1 dX7_take_10 (by decide) ?_
    exact rt_i S hr hlk rfl dX7_take_12
theorem kX7_take_a {p : Program} {l : Launch} {e : Env} {R : Room} {s : State} {m : MethodId} {args : Array Value} {below : List Frame} {meth : Method} {c : Code} {H : Heap} {locs : List Loc} {cells slots : Nat} {Q : State → Prop} {cc : ByteArray} {nL index pc : Nat} {own : String} {ls : Array Slot} {rest : List Value} {D : va_G} {K : Nat → ClassId} {b : Nat → Nat} {w n lap : Nat} {op mu ba la en : Nat → Nat} {pr : Nat → Option Nat} {fr : Bool} {co : Nat → Nat → Nat} {cw cj : Nat → Int64} {cl : Nat} {rv : Int64} {rc : Nat} {pj : Nat → Nat → Nat} {pw ch : Nat → Nat} {pl lc : Nat} {tl : Nat → Nat} (S : CallFix p m c cc nL s args lw_tb own) (hI : PI D K (cW K b w n lap op mu ba la en pr fr co cw cj cl rv rc pj pw ch pl lc tl) s H) (hG : GOK w n lap op mu ba la en pr) (h0 : n = 0) (hlink : Cond.methodLink own index yX7_take ∈ lw_tb) (hR : RO 2 R cells slots) (hsz : ls.size = nL) (hW : (rest.map fun v => v.category).sum ≤ 8) (hdg : decode cc pc = .ok (.invokevirtual index, 3)) (kk : W p l e R s m args below meth c H locs cells slots Q (F0 m (pc + 3) ls (.int ((-3)) :: rest))) : W p l e R s m args below meth c H locs cells slots Q (F0 m pc ls (.ref (b 0) :: rest)) :=
  kV (As := []) (b := b 0) S (mX7_take_a l hG h0) hlink tw_285 tw_286 tw_42 tw_287 (by show _ ∧ _ ∧ _ = some 0; decide +kernel) (by decide) hR blP (piU hI) (va_recv hI.2 hI.1 (ci := 7) (q0 := 0) rfl rfl) hsz rfl hW hdg kk

set_option maxHeartbeats 4000000 in
set_option maxRecDepth 100000 in
theorem mX7_take_b (l : Launch) {D : va_G} {K : Nat → ClassId} {b : Nat → Nat} {w n lap : Nat} {op mu ba la en : Nat → Nat} {pr : Nat → Option Nat} {fr : Bool} {co : Nat → Nat → Nat} {cw cj : Nat → Int64} {cl : Nat} {rv : Int64} {rc : Nat} {pj : Nat → Nat → Nat} {pw ch : Nat → Nat} {pl lc : Nat} {tl : Nat → Nat} (hDis : Dis b 44) (hG : GOK w n lap op mu ba la en pr) (hVO : VOK w n op mu ba en pr fr co cl rv rc pj pw ch pl lc tl) (h0 : 1 ≤ n) : Met l yX7_take (TWd yX7_take cX7_take 1 (some .int)) (rmk 2) (va_Pc [.ref (b 0)] (fun U => PI D K (cW K b w n lap op mu ba la en pr fr co cw cj cl rv rc pj pw ch pl lc tl) U U.heap)) (QX D K (fun u : CSc => some (.int (nI (n - 1)))) (fun u => (cW K b w (n - 1) lap op mu ba la en pr u.1 u.2.1 u.2.2.1 u.2.2.2.1 u.2.2.2.2.1 u.2.2.2.2.2.1 u.2.2.2.2.2.2.1 u.2.2.2.2.2.2.2.1 u.2.2.2.2.2.2.2.2.1 u.2.2.2.2.2.2.2.2.2.1 u.2.2.2.2.2.2.2.2.2.2.1 u.2.2.2.2.2.2.2.2.2.2.2.1 u.2.2.2.2.2.2.2.2.2.2.2.2)) (fun u => VOKu w (n - 1) op mu ba en pr u) (adA b 44)) 0 0 (adA b 44) := by
  refine mt_of (by decide +kernel) (Nat.le_of_ble_eq_true rfl) ?_
  intro p e s m below meth c S hr hlk hI ls hl
  have S : CallFix p m c cX7_take 1 s ([.ref (b 0)] : List Value).toArray lw_tb RX7 := S
  have hl : lv_has ls 1 [(0, .ref (b 0))] := hl
  have hS : va_S (adA b 44) s.heap s.heap [] := va_S.rf
  obtain ⟨gw1, gw2, gn, gl1, gl2, gop, gmu, gba, gla, gen, gpr, gop2, gmu2, gba2, gla2, gme, gbe, gle, gee⟩ := id hG
  obtain ⟨v1, v2, v3, v4, v5, v6, v7, v8, v9, v10, v11⟩ := id hVO
  refine lv_aload_n S.1 S.2.1 dX7_take_0 rfl (lv_at hl 0 rfl) ?_
  refine g7 S hI 0 rfl 0 (by decide) tw_236 rfl dX7_take_1 ?_
  refine g6 S hI 1 rfl 4 (by decide) tw_129 rfl dX7_take_4 ?_
  refine ly_ifgt (tgt := 13) S (nI_p1 (by omega)) (nI_p2 (by omega)) dX7_take_7 (by decide) (fun h1 => ?_) (fun h1 => ?_)
  · skip
    refine lv_aload_n S.1 S.2.1 dX7_take_13 rfl (lv_at hl 0 rfl) ?_
    refine g7 S hI 0 rfl 0 (by decide) tw_236 rfl dX7_take_14 ?_
    refine lv_dup S.1 S.2.1 dX7_take_17 rfl ?_
    refine g6 S hI 1 rfl 4 (by decide) tw_129 rfl dX7_take_18 ?_
    refine lv_iconst (v := nI 1) S.1 S.2.1 dX7_take_21 (by decide) ?_
    refine lv_isub S.1 S.2.1 dX7_take_22 ?_
    refine ly_top (z := nI (n - 1)) (pk_sub (by omega)) ?_
    refine p6 (ws' := (cW K b w (n - 1) lap op mu ba la en pr fr co cw cj cl rv rc pj pw ch pl lc tl)) S hI (cD hDis) hS 1 rfl 4 (by decide) tw_129 rfl rfl rfl rfl (Nat.le_of_ble_eq_true rfl) rfl dX7_take_23 (fun H locs hI hS => ?_)
    refine lv_aload_n S.1 S.2.1 dX7_take_26 rfl (lv_at hl 0 rfl) ?_
    refine kX7_forgetWhatCanBe S hI hS hDis tw_256 (rok (by decide)) hl.1 (Nat.le_of_ble_eq_true rfl) dX7_take_27 (fun u2 H locs hu2 hI hS _ _ => ?_)
    refine lv_aload_n S.1 S.2.1 dX7_take_30 rfl (lv_at hl 0 rfl) ?_
    refine g7 S hI 0 rfl 0 (by decide) tw_236 rfl dX7_take_31 ?_
    refine g6 S hI 1 rfl 4 (by decide) tw_129 rfl dX7_take_34 ?_
    exact rw_i S hr hlk (false, co, cw, cj, 0, rv, rc, pj, pw, ch, 0, lc, tl) rfl (VOK_f hVO) hI hS dX7_take_37
  · skip
    exact absurd h1 (by omega)
theorem kX7_take_b {p : Program} {l : Launch} {e : Env} {R : Room} {s : State} {m : MethodId} {args : Array Value} {below : List Frame} {meth : Method} {c : Code} {H H0 : Heap} {locs : List Loc} {cells slots : Nat} {Q : State → Prop} {cc : ByteArray} {nL index pc : Nat} {own : String} {ls : Array Slot} {rest : List Value} {D : va_G} {K : Nat → ClassId} {b : Nat → Nat} {w n lap : Nat} {op mu ba la en : Nat → Nat} {pr : Nat → Option Nat} {fr : Bool} {co : Nat → Nat → Nat} {cw cj : Nat → Int64} {cl : Nat} {rv : Int64} {rc : Nat} {pj : Nat → Nat → Nat} {pw ch : Nat → Nat} {pl lc : Nat} {tl : Nat → Nat} (S : CallFix p m c cc nL s args lw_tb own) (hI : PI D K (cW K b w n lap op mu ba la en pr fr co cw cj cl rv rc pj pw ch pl lc tl) s H) (hS : va_S (adA b 44) H0 H locs) (hDis : Dis b 44) (hG : GOK w n lap op mu ba la en pr) (hVO : VOK w n op mu ba en pr fr co cl rv rc pj pw ch pl lc tl) (h0 : 1 ≤ n) (hlink : Cond.methodLink own index yX7_take ∈ lw_tb) (hR : RO 2 R cells slots) (hsz : ls.size = nL) (hW : (rest.map fun v => v.category).sum ≤ 8) (hdg : decode cc pc = .ok (.invokevirtual index, 3)) (kk : ∀ (u : CSc) (H1 : Heap) (locs1 : List Loc), (VOKu w (n - 1) op mu ba en pr u) → PI D K (cW K b w (n - 1) lap op mu ba la en pr u.1 u.2.1 u.2.2.1 u.2.2.2.1 u.2.2.2.2.1 u.2.2.2.2.2.1 u.2.2.2.2.2.2.1 u.2.2.2.2.2.2.2.1 u.2.2.2.2.2.2.2.2.1 u.2.2.2.2.2.2.2.2.2.1 u.2.2.2.2.2.2.2.2.2.2.1 u.2.2.2.2.2.2.2.2.2.2.2.1 u.2.2.2.2.2.2.2.2.2.2.2.2) s H1 → va_S (adA b 44) H0 H1 locs1 → H.size ≤ H1.size → (∀ q : Nat, q < H.size → ¬ (adA b 44) q → H1[q]? = H[q]?) → W p l e R s m args below meth c H1 locs1 cells slots Q (F0 m (pc + 3) ls ((.int (nI (n - 1))) :: rest))) : W p l e R s m args below meth c H locs cells slots Q (F0 m pc ls (.ref (b 0) :: rest)) :=
  kVX (As := []) (b := b 0) S (mX7_take_b l hDis hG hVO h0) hlink tw_285 tw_286 tw_42 tw_287 (by show _ ∧ _ ∧ _ = some 0; decide +kernel) (by decide) hR blP (piU hI) (va_recv hI.2 hI.1 (ci := 7) (q0 := 0) rfl rfl) hS (fun _ h => h) hsz rfl hW hdg kk

set_option maxHeartbeats 4000000 in
set_option maxRecDepth 100000 in
theorem mX7_open_a (l : Launch) {D : va_G} {K : Nat → ClassId} {b : Nat → Nat} {w n lap : Nat} {op mu ba la en : Nat → Nat} {pr : Nat → Option Nat} {fr : Bool} {co : Nat → Nat → Nat} {cw cj : Nat → Int64} {cl : Nat} {rv : Int64} {rc : Nat} {pj : Nat → Nat → Nat} {pw ch : Nat → Nat} {pl lc : Nat} {tl : Nat → Nat} {v : Int32} {z : Int32} (hG : GOK w n lap op mu ba la en pr) (hv : wiI v 0 (nI n - 1) = false) : Met l yX7_open (TWd yX7_open cX7_open 5 (some .int)) (rmk 2) (va_Pc [.ref (b 0), .int v, .int z] (fun U => PI D K (cW K b w n lap op mu ba la en pr fr co cw cj cl rv rc pj pw ch pl lc tl) U U.heap)) (QcRead ((-1))) 0 0 (fun _ => False) := by
  refine mt_of (by decide +kernel) (Nat.le_of_ble_eq_true rfl) ?_
  intro p e s m below meth c S hr hlk hI ls hl
  have S : CallFix p m c cX7_open 5 s ([.ref (b 0), .int v, .int z] : List Value).toArray lw_tb RX7 := S
  have hl : lv_has ls 5 [(0, .ref (b 0)), (1, .int v), (2, .int z)] := hl
  obtain ⟨gw1, gw2, gn, gl1, gl2, gop, gmu, gba, gla, gen, gpr, gop2, gmu2, gba2, gla2, gme, gbe, gle, gee⟩ := id hG
  refine lv_aload_n S.1 S.2.1 dX7_open_0 rfl (lv_at hl 0 rfl) ?_
  refine g7 S hI 0 rfl 0 (by decide) tw_236 rfl dX7_open_1 ?_
  refine lv_iload_n S.1 S.2.1 dX7_open_4 rfl (lv_at hl 1 rfl) ?_
  refine kX6_has S hI hG tw_292 (rok (by decide)) hl.1 (Nat.le_of_ble_eq_true rfl) dX7_open_5 ?_
  refine ly_ifne (tgt := 13) S bI_e2 bI_e1 dX7_open_8 (by decide) (fun h1 => ?_) (fun h1 => ?_)
  · skip
    exact absurd h1 (by rw [hv]; decide)
  · skip
    refine lv_iconst (v := (-1)) S.1 S.2.1 dX7_open_11 (by decide) ?_
    exact rt_i S hr hlk rfl dX7_open_12
theorem kX7_open_a {p : Program} {l : Launch} {e : Env} {R : Room} {s : State} {m : MethodId} {args : Array Value} {below : List Frame} {meth : Method} {c : Code} {H : Heap} {locs : List Loc} {cells slots : Nat} {Q : State → Prop} {cc : ByteArray} {nL index pc : Nat} {own : String} {ls : Array Slot} {rest : List Value} {D : va_G} {K : Nat → ClassId} {b : Nat → Nat} {w n lap : Nat} {op mu ba la en : Nat → Nat} {pr : Nat → Option Nat} {fr : Bool} {co : Nat → Nat → Nat} {cw cj : Nat → Int64} {cl : Nat} {rv : Int64} {rc : Nat} {pj : Nat → Nat → Nat} {pw ch : Nat → Nat} {pl lc : Nat} {tl : Nat → Nat} {v : Int32} {z : Int32} (S : CallFix p m c cc nL s args lw_tb own) (hI : PI D K (cW K b w n lap op mu ba la en pr fr co cw cj cl rv rc pj pw ch pl lc tl) s H) (hG : GOK w n lap op mu ba la en pr) (hv : wiI v 0 (nI n - 1) = false) (hlink : Cond.methodLink own index yX7_open ∈ lw_tb) (hR : RO 2 R cells slots) (hsz : ls.size = nL) (hW : (rest.map fun v => v.category).sum ≤ 8) (hdg : decode cc pc = .ok (.invokevirtual index, 3)) (kk : W p l e R s m args below meth c H locs cells slots Q (F0 m (pc + 3) ls (.int ((-1)) :: rest))) : W p l e R s m args below meth c H locs cells slots Q (F0 m pc ls (.int z :: .int v :: .ref (b 0) :: rest)) :=
  kV (As := [.int v, .int z]) (b := b 0) S (mX7_open_a l hG hv) hlink tw_289 tw_290 tw_42 tw_291 (by show _ ∧ _ ∧ _ = some 2; decide +kernel) (by decide) hR blP (piU hI) (va_recv hI.2 hI.1 (ci := 7) (q0 := 0) rfl rfl) hsz rfl hW hdg kk

set_option maxHeartbeats 4000000 in
set_option maxRecDepth 100000 in
theorem mX7_open_b (l : Launch) {D : va_G} {K : Nat → ClassId} {b : Nat → Nat} {w n lap : Nat} {op mu ba la en : Nat → Nat} {pr : Nat → Option Nat} {fr : Bool} {co : Nat → Nat → Nat} {cw cj : Nat → Int64} {cl : Nat} {rv : Int64} {rc : Nat} {pj : Nat → Nat → Nat} {pw ch : Nat → Nat} {pl lc : Nat} {tl : Nat → Nat} {ci : Nat} {z : Int32} (hG : GOK w n lap op mu ba la en pr) (hc : ci < n) (hz : wiI z (nI 0) (nI (2 ^ w - 1)) = false) : Met l yX7_open (TWd yX7_open cX7_open 5 (some .int)) (rmk 2) (va_Pc [.ref (b 0), .int (nI ci), .int z] (fun U => PI D K (cW K b w n lap op mu ba la en pr fr co cw cj cl rv rc pj pw ch pl lc tl) U U.heap)) (QcRead ((-2))) 0 0 (fun _ => False) := by
  refine mt_of (by decide +kernel) (Nat.le_of_ble_eq_true rfl) ?_
  intro p e s m below meth c S hr hlk hI ls hl
  have S : CallFix p m c cX7_open 5 s ([.ref (b 0), .int (nI ci), .int z] : List Value).toArray lw_tb RX7 := S
  have hl : lv_has ls 5 [(0, .ref (b 0)), (1, .int (nI ci)), (2, .int z)] := hl
  obtain ⟨gw1, gw2, gn, gl1, gl2, gop, gmu, gba, gla, gen, gpr, gop2, gmu2, gba2, gla2, gme, gbe, gle, gee⟩ := id hG
  refine lv_aload_n S.1 S.2.1 dX7_open_0 rfl (lv_at hl 0 rfl) ?_
  refine g7 S hI 0 rfl 0 (by decide) tw_236 rfl dX7_open_1 ?_
  refine lv_iload_n S.1 S.2.1 dX7_open_4 rfl (lv_at hl 1 rfl) ?_
  refine kX6_has S hI hG tw_292 (rok (by decide)) hl.1 (Nat.le_of_ble_eq_true rfl) dX7_open_5 ?_
  refine ly_ifne (tgt := 13) S bI_e2 bI_e1 dX7_open_8 (by decide) (fun h1 => ?_) (fun h1 => ?_)
  · skip
    refine lv_iload_n S.1 S.2.1 dX7_open_13 rfl (lv_at hl 2 rfl) ?_
    refine lv_aload_n S.1 S.2.1 dX7_open_14 rfl (lv_at hl 0 rfl) ?_
    refine g7 S hI 0 rfl 0 (by decide) tw_236 rfl dX7_open_15 ?_
    refine kX6_cells S hI hG tw_296 (rok (by decide)) hl.1 (Nat.le_of_ble_eq_true rfl) dX7_open_18 ?_
    refine lv_iconst (v := (-1)) S.1 S.2.1 dX7_open_21 (by decide) ?_
    refine lv_ixor S.1 S.2.1 dX7_open_22 ?_
    refine lv_iand S.1 S.2.1 dX7_open_23 ?_
    refine ly_ifeq (tgt := 30) S (fun q => q) (fun q => q) dX7_open_24 (by decide) (fun h2 => ?_) (fun h2 => ?_)
    · skip
      exact absurd h2 (mk_cells gw1 gw2 hz)
    · skip
      refine lv_bipush (v := (-2)) S.1 S.2.1 dX7_open_27 (by decide) ?_
      exact rt_i S hr hlk rfl dX7_open_29
  · skip
    exact absurd h1 (by rw [wiC (by omega) (by omega)]; decide)
theorem kX7_open_b {p : Program} {l : Launch} {e : Env} {R : Room} {s : State} {m : MethodId} {args : Array Value} {below : List Frame} {meth : Method} {c : Code} {H : Heap} {locs : List Loc} {cells slots : Nat} {Q : State → Prop} {cc : ByteArray} {nL index pc : Nat} {own : String} {ls : Array Slot} {rest : List Value} {D : va_G} {K : Nat → ClassId} {b : Nat → Nat} {w n lap : Nat} {op mu ba la en : Nat → Nat} {pr : Nat → Option Nat} {fr : Bool} {co : Nat → Nat → Nat} {cw cj : Nat → Int64} {cl : Nat} {rv : Int64} {rc : Nat} {pj : Nat → Nat → Nat} {pw ch : Nat → Nat} {pl lc : Nat} {tl : Nat → Nat} {ci : Nat} {z : Int32} (S : CallFix p m c cc nL s args lw_tb own) (hI : PI D K (cW K b w n lap op mu ba la en pr fr co cw cj cl rv rc pj pw ch pl lc tl) s H) (hG : GOK w n lap op mu ba la en pr) (hc : ci < n) (hz : wiI z (nI 0) (nI (2 ^ w - 1)) = false) (hlink : Cond.methodLink own index yX7_open ∈ lw_tb) (hR : RO 2 R cells slots) (hsz : ls.size = nL) (hW : (rest.map fun v => v.category).sum ≤ 8) (hdg : decode cc pc = .ok (.invokevirtual index, 3)) (kk : W p l e R s m args below meth c H locs cells slots Q (F0 m (pc + 3) ls (.int ((-2)) :: rest))) : W p l e R s m args below meth c H locs cells slots Q (F0 m pc ls (.int z :: .int (nI ci) :: .ref (b 0) :: rest)) :=
  kV (As := [.int (nI ci), .int z]) (b := b 0) S (mX7_open_b l hG hc hz) hlink tw_289 tw_290 tw_42 tw_291 (by show _ ∧ _ ∧ _ = some 2; decide +kernel) (by decide) hR blP (piU hI) (va_recv hI.2 hI.1 (ci := 7) (q0 := 0) rfl rfl) hsz rfl hW hdg kk

set_option maxHeartbeats 4000000 in
set_option maxRecDepth 100000 in
theorem mX7_open_c (l : Launch) {D : va_G} {K : Nat → ClassId} {b : Nat → Nat} {w n lap : Nat} {op mu ba la en : Nat → Nat} {pr : Nat → Option Nat} {fr : Bool} {co : Nat → Nat → Nat} {cw cj : Nat → Int64} {cl : Nat} {rv : Int64} {rc : Nat} {pj : Nat → Nat → Nat} {pw ch : Nat → Nat} {pl lc : Nat} {tl : Nat → Nat} {ci : Nat} {k : Nat} (hDis : Dis b 44) (hG : GOK w n lap op mu ba la en pr) (hVO : VOK w n op mu ba en pr fr co cl rv rc pj pw ch pl lc tl) (hc : ci < n) (hk : k < 2 ^ w) : Met l yX7_open (TWd yX7_open cX7_open 5 (some .int)) (rmk 2) (va_Pc [.ref (b 0), .int (nI ci), .int (nI k)] (fun U => PI D K (cW K b w n lap op mu ba la en pr fr co cw cj cl rv rc pj pw ch pl lc tl) U U.heap)) (QX D K (fun u : CSc => some (.int (nI (op ci)))) (fun u => (cW K b w n lap (va_up op ci k) mu ba la en pr u.1 u.2.1 u.2.2.1 u.2.2.2.1 u.2.2.2.2.1 u.2.2.2.2.2.1 u.2.2.2.2.2.2.1 u.2.2.2.2.2.2.2.1 u.2.2.2.2.2.2.2.2.1 u.2.2.2.2.2.2.2.2.2.1 u.2.2.2.2.2.2.2.2.2.2.1 u.2.2.2.2.2.2.2.2.2.2.2.1 u.2.2.2.2.2.2.2.2.2.2.2.2)) (fun u => VOKu w n (va_up op ci k) mu ba en pr u) (adA b 44)) 0 0 (adA b 44) := by
  refine mt_of (by decide +kernel) (Nat.le_of_ble_eq_true rfl) ?_
  intro p e s m below meth c S hr hlk hI ls hl
  have S : CallFix p m c cX7_open 5 s ([.ref (b 0), .int (nI ci), .int (nI k)] : List Value).toArray lw_tb RX7 := S
  have hl : lv_has ls 5 [(0, .ref (b 0)), (1, .int (nI ci)), (2, .int (nI k))] := hl
  have hS : va_S (adA b 44) s.heap s.heap [] := va_S.rf
  obtain ⟨gw1, gw2, gn, gl1, gl2, gop, gmu, gba, gla, gen, gpr, gop2, gmu2, gba2, gla2, gme, gbe, gle, gee⟩ := id hG
  obtain ⟨v1, v2, v3, v4, v5, v6, v7, v8, v9, v10, v11⟩ := id hVO
  have sw : 1 <<< w = 2 ^ w := Nat.one_shiftLeft w
  have pwx : 2 ^ w ≤ 2 ^ 10 := Nat.pow_le_pow_right (by decide) gw2
  have pw3 : 2 ^ 2 ≤ 2 ^ w := Nat.pow_le_pow_right (by decide) gw1
  have pw0 : 2 ^ w ≤ 1024   := pwx
  have pw4 : 4 ≤ 2 ^ w := pw3
  refine lv_aload_n S.1 S.2.1 dX7_open_0 rfl (lv_at hl 0 rfl) ?_
  refine g7 S hI 0 rfl 0 (by decide) tw_236 rfl dX7_open_1 ?_
  refine lv_iload_n S.1 S.2.1 dX7_open_4 rfl (lv_at hl 1 rfl) ?_
  refine kX6_has S hI hG tw_292 (rok (by decide)) hl.1 (Nat.le_of_ble_eq_true rfl) dX7_open_5 ?_
  refine ly_ifne (tgt := 13) S bI_e2 bI_e1 dX7_open_8 (by decide) (fun h1 => ?_) (fun h1 => ?_)
  · skip
    refine lv_iload_n S.1 S.2.1 dX7_open_13 rfl (lv_at hl 2 rfl) ?_
    refine lv_aload_n S.1 S.2.1 dX7_open_14 rfl (lv_at hl 0 rfl) ?_
    refine g7 S hI 0 rfl 0 (by decide) tw_236 rfl dX7_open_15 ?_
    refine kX6_cells S hI hG tw_296 (rok (by decide)) hl.1 (Nat.le_of_ble_eq_true rfl) dX7_open_18 ?_
    refine lv_iconst (v := (-1)) S.1 S.2.1 dX7_open_21 (by decide) ?_
    refine lv_ixor S.1 S.2.1 dX7_open_22 ?_
    refine lv_iand S.1 S.2.1 dX7_open_23 ?_
    refine ly_top (z := (nI (ndf k (2 ^ w - 1)))) (nI_andn (by omega) (by omega)) ?_
    refine ly_ifeq (tgt := 30) S (nI_z1 (ndf_lt (by omega))) (nI_z2 (ndf_lt (by omega))) dX7_open_24 (by decide) (fun h2 => ?_) (fun h2 => ?_)
    · skip
      refine lv_aload_n S.1 S.2.1 dX7_open_30 rfl (lv_at hl 0 rfl) ?_
      refine g7 S hI 0 rfl 0 (by decide) tw_236 rfl dX7_open_31 ?_
      refine lv_iload_n S.1 S.2.1 dX7_open_34 rfl (lv_at hl 1 rfl) ?_
      refine kX6_at_c S hI (by omega) (by omega) tw_276 (rok (by decide)) hl.1 (Nat.le_of_ble_eq_true rfl) dX7_open_35 ?_
      refine lv_astore_n (lv' := [(3, .ref (b (19 + ci))), (0, .ref (b 0)), (1, .int (nI ci)), (2, .int (nI k))]) S.1 S.2.1 dX7_open_38 rfl hl (by decide) rfl (fun ls hl => ?_)
      refine lv_aload_n S.1 S.2.1 dX7_open_39 rfl (lv_at hl 0 rfl) ?_
      refine g2 S hI (19 + ci) (cw_cr (by omega)) 0 (by decide) tw_103 rfl dX7_open_40 ?_
      refine ly_top (z := (nI (op ci))) (by rw [gzl (f := op) (by omega)]) ?_
      refine lv_istore (lv' := [(4, .int (nI (op ci))), (3, .ref (b (19 + ci))), (0, .ref (b 0)), (1, .int (nI ci)), (2, .int (nI k))]) S.1 S.2.1 dX7_open_43 hl (by decide) rfl (fun ls hl => ?_)
      refine lv_aload_n S.1 S.2.1 dX7_open_45 rfl (lv_at hl 1 rfl) ?_
      refine lv_iload_n S.1 S.2.1 dX7_open_46 rfl (lv_at hl 4 rfl) ?_
      refine p2 (ws' := (cW K b w n lap (va_up op ci k) mu ba la en pr fr co cw cj cl rv rc pj pw ch pl lc tl)) S hI (cD hDis) hS (19 + ci) (cw_cr (by omega)) 0 (by decide) tw_103 rfl rfl rfl rfl (Nat.le_of_ble_eq_true rfl) (cs_op (by omega)) dX7_open_47 (fun H locs hI hS => ?_)
      refine lv_aload_n S.1 S.2.1 dX7_open_50 rfl (lv_at hl 2 rfl) ?_
      refine kX7_forgetWhatCanBe S hI hS hDis tw_256 (rok (by decide)) hl.1 (Nat.le_of_ble_eq_true rfl) dX7_open_51 (fun u3 H locs hu3 hI hS _ _ => ?_)
      refine lv_iload S.1 S.2.1 dX7_open_54 (lv_at hl 0 rfl) ?_
      exact rw_i S hr hlk (false, co, cw, cj, 0, rv, rc, pj, pw, ch, 0, lc, tl) rfl (VOK_f hVO) hI hS dX7_open_56
    · skip
      exact absurd (ndf_cells hk) h2
  · skip
    exact absurd h1 (by rw [wiC (by omega) (by omega)]; decide)
theorem kX7_open_c {p : Program} {l : Launch} {e : Env} {R : Room} {s : State} {m : MethodId} {args : Array Value} {below : List Frame} {meth : Method} {c : Code} {H H0 : Heap} {locs : List Loc} {cells slots : Nat} {Q : State → Prop} {cc : ByteArray} {nL index pc : Nat} {own : String} {ls : Array Slot} {rest : List Value} {D : va_G} {K : Nat → ClassId} {b : Nat → Nat} {w n lap : Nat} {op mu ba la en : Nat → Nat} {pr : Nat → Option Nat} {fr : Bool} {co : Nat → Nat → Nat} {cw cj : Nat → Int64} {cl : Nat} {rv : Int64} {rc : Nat} {pj : Nat → Nat → Nat} {pw ch : Nat → Nat} {pl lc : Nat} {tl : Nat → Nat} {ci : Nat} {k : Nat} (S : CallFix p m c cc nL s args lw_tb own) (hI : PI D K (cW K b w n lap op mu ba la en pr fr co cw cj cl rv rc pj pw ch pl lc tl) s H) (hS : va_S (adA b 44) H0 H locs) (hDis : Dis b 44) (hG : GOK w n lap op mu ba la en pr) (hVO : VOK w n op mu ba en pr fr co cl rv rc pj pw ch pl lc tl) (hc : ci < n) (hk : k < 2 ^ w) (hlink : Cond.methodLink own index yX7_open ∈ lw_tb) (hR : RO 2 R cells slots) (hsz : ls.size = nL) (hW : (rest.map fun v => v.category).sum ≤ 8) (hdg : decode cc pc = .ok (.invokevirtual index, 3)) (kk : ∀ (u : CSc) (H1 : Heap) (locs1 : List Loc), (VOKu w n (va_up op ci k) mu ba en pr u) → PI D K (cW K b w n lap (va_up op ci k) mu ba la en pr u.1 u.2.1 u.2.2.1 u.2.2.2.1 u.2.2.2.2.1 u.2.2.2.2.2.1 u.2.2.2.2.2.2.1 u.2.2.2.2.2.2.2.1 u.2.2.2.2.2.2.2.2.1 u.2.2.2.2.2.2.2.2.2.1 u.2.2.2.2.2.2.2.2.2.2.1 u.2.2.2.2.2.2.2.2.2.2.2.1 u.2.2.2.2.2.2.2.2.2.2.2.2) s H1 → va_S (adA b 44) H0 H1 locs1 → H.size ≤ H1.size → (∀ q : Nat, q < H.size → ¬ (adA b 44) q → H1[q]? = H[q]?) → W p l e R s m args below meth c H1 locs1 cells slots Q (F0 m (pc + 3) ls ((.int (nI (op ci))) :: rest))) : W p l e R s m args below meth c H locs cells slots Q (F0 m pc ls (.int (nI k) :: .int (nI ci) :: .ref (b 0) :: rest)) :=
  kVX (As := [.int (nI ci), .int (nI k)]) (b := b 0) S (mX7_open_c l hDis hG hVO hc hk) hlink tw_289 tw_290 tw_42 tw_291 (by show _ ∧ _ ∧ _ = some 2; decide +kernel) (by decide) hR blP (piU hI) (va_recv hI.2 hI.1 (ci := 7) (q0 := 0) rfl rfl) hS (fun _ h => h) hsz rfl hW hdg kk

set_option maxHeartbeats 4000000 in
set_option maxRecDepth 100000 in
theorem mX7_must_a (l : Launch) {D : va_G} {K : Nat → ClassId} {b : Nat → Nat} {w n lap : Nat} {op mu ba la en : Nat → Nat} {pr : Nat → Option Nat} {fr : Bool} {co : Nat → Nat → Nat} {cw cj : Nat → Int64} {cl : Nat} {rv : Int64} {rc : Nat} {pj : Nat → Nat → Nat} {pw ch : Nat → Nat} {pl lc : Nat} {tl : Nat → Nat} {v : Int32} {hw : Int32} {z : Int32} (hG : GOK w n lap op mu ba la en pr) (hv : wiI v 0 (nI n - 1) = false) : Met l yX7_must (TWd yX7_must cX7_must 6 (some .int)) (rmk 2) (va_Pc [.ref (b 0), .int v, .int hw, .int z] (fun U => PI D K (cW K b w n lap op mu ba la en pr fr co cw cj cl rv rc pj pw ch pl lc tl) U U.heap)) (QcRead ((-1))) 0 0 (fun _ => False) := by
  refine mt_of (by decide +kernel) (Nat.le_of_ble_eq_true rfl) ?_
  intro p e s m below meth c S hr hlk hI ls hl
  have S : CallFix p m c cX7_must 6 s ([.ref (b 0), .int v, .int hw, .int z] : List Value).toArray lw_tb RX7 := S
  have hl : lv_has ls 6 [(0, .ref (b 0)), (1, .int v), (2, .int hw), (3, .int z)] := hl
  obtain ⟨gw1, gw2, gn, gl1, gl2, gop, gmu, gba, gla, gen, gpr, gop2, gmu2, gba2, gla2, gme, gbe, gle, gee⟩ := id hG
  refine lv_aload_n S.1 S.2.1 dX7_must_0 rfl (lv_at hl 0 rfl) ?_
  refine g7 S hI 0 rfl 0 (by decide) tw_236 rfl dX7_must_1 ?_
  refine lv_iload_n S.1 S.2.1 dX7_must_4 rfl (lv_at hl 1 rfl) ?_
  refine kX6_has S hI hG tw_292 (rok (by decide)) hl.1 (Nat.le_of_ble_eq_true rfl) dX7_must_5 ?_
  refine ly_ifne (tgt := 13) S bI_e2 bI_e1 dX7_must_8 (by decide) (fun h1 => ?_) (fun h1 => ?_)
  · skip
    exact absurd h1 (by rw [hv]; decide)
  · skip
    refine lv_iconst (v := (-1)) S.1 S.2.1 dX7_must_11 (by decide) ?_
    exact rt_i S hr hlk rfl dX7_must_12
theorem kX7_must_a {p : Program} {l : Launch} {e : Env} {R : Room} {s : State} {m : MethodId} {args : Array Value} {below : List Frame} {meth : Method} {c : Code} {H : Heap} {locs : List Loc} {cells slots : Nat} {Q : State → Prop} {cc : ByteArray} {nL index pc : Nat} {own : String} {ls : Array Slot} {rest : List Value} {D : va_G} {K : Nat → ClassId} {b : Nat → Nat} {w n lap : Nat} {op mu ba la en : Nat → Nat} {pr : Nat → Option Nat} {fr : Bool} {co : Nat → Nat → Nat} {cw cj : Nat → Int64} {cl : Nat} {rv : Int64} {rc : Nat} {pj : Nat → Nat → Nat} {pw ch : Nat → Nat} {pl lc : Nat} {tl : Nat → Nat} {v : Int32} {hw : Int32} {z : Int32} (S : CallFix p m c cc nL s args lw_tb own) (hI : PI D K (cW K b w n lap op mu ba la en pr fr co cw cj cl rv rc pj pw ch pl lc tl) s H) (hG : GOK w n lap op mu ba la en pr) (hv : wiI v 0 (nI n - 1) = false) (hlink : Cond.methodLink own index yX7_must ∈ lw_tb) (hR : RO 2 R cells slots) (hsz : ls.size = nL) (hW : (rest.map fun v => v.category).sum ≤ 8) (hdg : decode cc pc = .ok (.invokevirtual index, 3)) (kk : W p l e R s m args below meth c H locs cells slots Q (F0 m (pc + 3) ls (.int ((-1)) :: rest))) : W p l e R s m args below meth c H locs cells slots Q (F0 m pc ls (.int z :: .int hw :: .int v :: .ref (b 0) :: rest)) :=
  kV (As := [.int v, .int hw, .int z]) (b := b 0) S (mX7_must_a l hG hv) hlink tw_301 tw_302 tw_42 tw_303 (by show _ ∧ _ ∧ _ = some 3; decide +kernel) (by decide) hR blP (piU hI) (va_recv hI.2 hI.1 (ci := 7) (q0 := 0) rfl rfl) hsz rfl hW hdg kk

set_option maxHeartbeats 4000000 in
set_option maxRecDepth 100000 in
theorem mX7_must_b (l : Launch) {D : va_G} {K : Nat → ClassId} {b : Nat → Nat} {w n lap : Nat} {op mu ba la en : Nat → Nat} {pr : Nat → Option Nat} {fr : Bool} {co : Nat → Nat → Nat} {cw cj : Nat → Int64} {cl : Nat} {rv : Int64} {rc : Nat} {pj : Nat → Nat → Nat} {pw ch : Nat → Nat} {pl lc : Nat} {tl : Nat → Nat} {ci : Nat} {hw : Int32} {z : Int32} (hG : GOK w n lap op mu ba la en pr) (hc : ci < n) (hz : (wiI hw (nI 0) (nI 1) && plI w z) = false) : Met l yX7_must (TWd yX7_must cX7_must 6 (some .int)) (rmk 2) (va_Pc [.ref (b 0), .int (nI ci), .int hw, .int z] (fun U => PI D K (cW K b w n lap op mu ba la en pr fr co cw cj cl rv rc pj pw ch pl lc tl) U U.heap)) (QcRead ((-2))) 0 0 (fun _ => False) := by
  refine mt_of (by decide +kernel) (Nat.le_of_ble_eq_true rfl) ?_
  intro p e s m below meth c S hr hlk hI ls hl
  have S : CallFix p m c cX7_must 6 s ([.ref (b 0), .int (nI ci), .int hw, .int z] : List Value).toArray lw_tb RX7 := S
  have hl : lv_has ls 6 [(0, .ref (b 0)), (1, .int (nI ci)), (2, .int hw), (3, .int z)] := hl
  obtain ⟨gw1, gw2, gn, gl1, gl2, gop, gmu, gba, gla, gen, gpr, gop2, gmu2, gba2, gla2, gme, gbe, gle, gee⟩ := id hG
  refine lv_aload_n S.1 S.2.1 dX7_must_0 rfl (lv_at hl 0 rfl) ?_
  refine g7 S hI 0 rfl 0 (by decide) tw_236 rfl dX7_must_1 ?_
  refine lv_iload_n S.1 S.2.1 dX7_must_4 rfl (lv_at hl 1 rfl) ?_
  refine kX6_has S hI hG tw_292 (rok (by decide)) hl.1 (Nat.le_of_ble_eq_true rfl) dX7_must_5 ?_
  refine ly_ifne (tgt := 13) S bI_e2 bI_e1 dX7_must_8 (by decide) (fun h1 => ?_) (fun h1 => ?_)
  · skip
    refine lv_iload_n S.1 S.2.1 dX7_must_13 rfl (lv_at hl 2 rfl) ?_
    refine ly_iflt (tgt := 36) S (fun q => q) (fun q => q) dX7_must_14 (by decide) (fun h2 => ?_) (fun h2 => ?_)
    · skip
      refine lv_bipush (v := (-2)) S.1 S.2.1 dX7_must_36 (by decide) ?_
      exact rt_i S hr hlk rfl dX7_must_38
    · skip
      refine lv_iload_n S.1 S.2.1 dX7_must_17 rfl (lv_at hl 2 rfl) ?_
      refine lv_iconst (v := nI 1) S.1 S.2.1 dX7_must_18 (by decide) ?_
      refine ly_cmgt (tgt := 36) S (fun q => q) (fun q => q) dX7_must_19 (by decide) (fun h3 => ?_) (fun h3 => ?_)
      · skip
        refine lv_bipush (v := (-2)) S.1 S.2.1 dX7_must_36 (by decide) ?_
        exact rt_i S hr hlk rfl dX7_must_38
      · skip
        refine lv_iload_n S.1 S.2.1 dX7_must_22 rfl (lv_at hl 3 rfl) ?_
        refine lv_aload_n S.1 S.2.1 dX7_must_23 rfl (lv_at hl 0 rfl) ?_
        refine g7 S hI 0 rfl 0 (by decide) tw_236 rfl dX7_must_24 ?_
        refine kX6_places S hI hG tw_304 (rok (by decide)) hl.1 (Nat.le_of_ble_eq_true rfl) dX7_must_27 ?_
        refine lv_iconst (v := (-1)) S.1 S.2.1 dX7_must_30 (by decide) ?_
        refine lv_ixor S.1 S.2.1 dX7_must_31 ?_
        refine lv_iand S.1 S.2.1 dX7_must_32 ?_
        refine ly_ifeq (tgt := 39) S (fun q => q) (fun q => q) dX7_must_33 (by decide) (fun h4 => ?_) (fun h4 => ?_)
        · skip
          exact absurd h4 (mk_places gw1 gw2 (mu_z hz h2 h3))
        · skip
          refine lv_bipush (v := (-2)) S.1 S.2.1 dX7_must_36 (by decide) ?_
          exact rt_i S hr hlk rfl dX7_must_38
  · skip
    exact absurd h1 (by rw [wiC (by omega) (by omega)]; decide)
theorem kX7_must_b {p : Program} {l : Launch} {e : Env} {R : Room} {s : State} {m : MethodId} {args : Array Value} {below : List Frame} {meth : Method} {c : Code} {H : Heap} {locs : List Loc} {cells slots : Nat} {Q : State → Prop} {cc : ByteArray} {nL index pc : Nat} {own : String} {ls : Array Slot} {rest : List Value} {D : va_G} {K : Nat → ClassId} {b : Nat → Nat} {w n lap : Nat} {op mu ba la en : Nat → Nat} {pr : Nat → Option Nat} {fr : Bool} {co : Nat → Nat → Nat} {cw cj : Nat → Int64} {cl : Nat} {rv : Int64} {rc : Nat} {pj : Nat → Nat → Nat} {pw ch : Nat → Nat} {pl lc : Nat} {tl : Nat → Nat} {ci : Nat} {hw : Int32} {z : Int32} (S : CallFix p m c cc nL s args lw_tb own) (hI : PI D K (cW K b w n lap op mu ba la en pr fr co cw cj cl rv rc pj pw ch pl lc tl) s H) (hG : GOK w n lap op mu ba la en pr) (hc : ci < n) (hz : (wiI hw (nI 0) (nI 1) && plI w z) = false) (hlink : Cond.methodLink own index yX7_must ∈ lw_tb) (hR : RO 2 R cells slots) (hsz : ls.size = nL) (hW : (rest.map fun v => v.category).sum ≤ 8) (hdg : decode cc pc = .ok (.invokevirtual index, 3)) (kk : W p l e R s m args below meth c H locs cells slots Q (F0 m (pc + 3) ls (.int ((-2)) :: rest))) : W p l e R s m args below meth c H locs cells slots Q (F0 m pc ls (.int z :: .int hw :: .int (nI ci) :: .ref (b 0) :: rest)) :=
  kV (As := [.int (nI ci), .int hw, .int z]) (b := b 0) S (mX7_must_b l hG hc hz) hlink tw_301 tw_302 tw_42 tw_303 (by show _ ∧ _ ∧ _ = some 3; decide +kernel) (by decide) hR blP (piU hI) (va_recv hI.2 hI.1 (ci := 7) (q0 := 0) rfl rfl) hsz rfl hW hdg kk

set_option maxHeartbeats 4000000 in
set_option maxRecDepth 100000 in
theorem mX7_must_c1 (l : Launch) {D : va_G} {K : Nat → ClassId} {b : Nat → Nat} {w n lap : Nat} {op mu ba la en : Nat → Nat} {pr : Nat → Option Nat} {fr : Bool} {co : Nat → Nat → Nat} {cw cj : Nat → Int64} {cl : Nat} {rv : Int64} {rc : Nat} {pj : Nat → Nat → Nat} {pw ch : Nat → Nat} {pl lc : Nat} {tl : Nat → Nat} {ci : Nat} {k : Nat} (hDis : Dis b 44) (hG : GOK w n lap op mu ba la en pr) (hVO : VOK w n op mu ba en pr fr co cl rv rc pj pw ch pl lc tl) (hc : ci < n) (hk : k < 2 ^ w) (hk2 : k % 2 = 0) : Met l yX7_must (TWd yX7_must cX7_must 6 (some .int)) (rmk 2) (va_Pc [.ref (b 0), .int (nI ci), .int (nI 1), .int (nI k)] (fun U => PI D K (cW K b w n lap op mu ba la en pr fr co cw cj cl rv rc pj pw ch pl lc tl) U U.heap)) (QX D K (fun u : CSc => some (.int (nI (mu ci)))) (fun u => (cW K b w n lap op (va_up mu ci k) ba la en pr u.1 u.2.1 u.2.2.1 u.2.2.2.1 u.2.2.2.2.1 u.2.2.2.2.2.1 u.2.2.2.2.2.2.1 u.2.2.2.2.2.2.2.1 u.2.2.2.2.2.2.2.2.1 u.2.2.2.2.2.2.2.2.2.1 u.2.2.2.2.2.2.2.2.2.2.1 u.2.2.2.2.2.2.2.2.2.2.2.1 u.2.2.2.2.2.2.2.2.2.2.2.2)) (fun u => VOKu w n op (va_up mu ci k) ba en pr u) (adA b 44)) 0 0 (adA b 44) := by
  refine mt_of (by decide +kernel) (Nat.le_of_ble_eq_true rfl) ?_
  intro p e s m below meth c S hr hlk hI ls hl
  have S : CallFix p m c cX7_must 6 s ([.ref (b 0), .int (nI ci), .int (nI 1), .int (nI k)] : List Value).toArray lw_tb RX7 := S
  have hl : lv_has ls 6 [(0, .ref (b 0)), (1, .int (nI ci)), (2, .int (nI 1)), (3, .int (nI k))] := hl
  have hS : va_S (adA b 44) s.heap s.heap [] := va_S.rf
  obtain ⟨gw1, gw2, gn, gl1, gl2, gop, gmu, gba, gla, gen, gpr, gop2, gmu2, gba2, gla2, gme, gbe, gle, gee⟩ := id hG
  obtain ⟨v1, v2, v3, v4, v5, v6, v7, v8, v9, v10, v11⟩ := id hVO
  have sw : 1 <<< w = 2 ^ w := Nat.one_shiftLeft w
  have pwx : 2 ^ w ≤ 2 ^ 10 := Nat.pow_le_pow_right (by decide) gw2
  have pw3 : 2 ^ 2 ≤ 2 ^ w := Nat.pow_le_pow_right (by decide) gw1
  have pw0 : 2 ^ w ≤ 1024   := pwx
  have pw4 : 4 ≤ 2 ^ w := pw3
  refine lv_aload_n S.1 S.2.1 dX7_must_0 rfl (lv_at hl 0 rfl) ?_
  refine g7 S hI 0 rfl 0 (by decide) tw_236 rfl dX7_must_1 ?_
  refine lv_iload_n S.1 S.2.1 dX7_must_4 rfl (lv_at hl 1 rfl) ?_
  refine kX6_has S hI hG tw_292 (rok (by decide)) hl.1 (Nat.le_of_ble_eq_true rfl) dX7_must_5 ?_
  refine ly_ifne (tgt := 13) S bI_e2 bI_e1 dX7_must_8 (by decide) (fun h1 => ?_) (fun h1 => ?_)
  · skip
    refine lv_iload_n S.1 S.2.1 dX7_must_13 rfl (lv_at hl 2 rfl) ?_
    refine ly_iflt (tgt := 36) S (fun q => (nI_n1 (by omega) q : False)) (fun q => nI_n2 q) dX7_must_14 (by decide) (fun h2 => ?_) (fun h2 => ?_)
    · skip
      exact h2.elim
    · skip
      refine lv_iload_n S.1 S.2.1 dX7_must_17 rfl (lv_at hl 2 rfl) ?_
      refine lv_iconst (v := nI 1) S.1 S.2.1 dX7_must_18 (by decide) ?_
      refine ly_cmgt (tgt := 36) S (nI_l1 (by omega) (by omega)) (nI_l2 (by omega) (by omega)) dX7_must_19 (by decide) (fun h3 => ?_) (fun h3 => ?_)
      · skip
        exact absurd h3 (by decide)
      · skip
        refine lv_iload_n S.1 S.2.1 dX7_must_22 rfl (lv_at hl 3 rfl) ?_
        refine lv_aload_n S.1 S.2.1 dX7_must_23 rfl (lv_at hl 0 rfl) ?_
        refine g7 S hI 0 rfl 0 (by decide) tw_236 rfl dX7_must_24 ?_
        refine kX6_places S hI hG tw_304 (rok (by decide)) hl.1 (Nat.le_of_ble_eq_true rfl) dX7_must_27 ?_
        refine lv_iconst (v := (-1)) S.1 S.2.1 dX7_must_30 (by decide) ?_
        refine lv_ixor S.1 S.2.1 dX7_must_31 ?_
        refine lv_iand S.1 S.2.1 dX7_must_32 ?_
        refine ly_top (z := (nI (ndf k (2 ^ w - 2)))) (nI_andn (by omega) (by omega)) ?_
        refine ly_ifeq (tgt := 39) S (nI_z1 (ndf_lt (by omega))) (nI_z2 (ndf_lt (by omega))) dX7_must_33 (by decide) (fun h4 => ?_) (fun h4 => ?_)
        · skip
          refine lv_aload_n S.1 S.2.1 dX7_must_39 rfl (lv_at hl 0 rfl) ?_
          refine g7 S hI 0 rfl 0 (by decide) tw_236 rfl dX7_must_40 ?_
          refine lv_iload_n S.1 S.2.1 dX7_must_43 rfl (lv_at hl 1 rfl) ?_
          refine kX6_at_c S hI (by omega) (by omega) tw_276 (rok (by decide)) hl.1 (Nat.le_of_ble_eq_true rfl) dX7_must_44 ?_
          refine lv_astore (lv' := [(4, .ref (b (19 + ci))), (0, .ref (b 0)), (1, .int (nI ci)), (2, .int (nI 1)), (3, .int (nI k))]) S.1 S.2.1 dX7_must_47 hl (by decide) rfl (fun ls hl => ?_)
          refine lv_iload_n S.1 S.2.1 dX7_must_49 rfl (lv_at hl 3 rfl) ?_
          refine lv_iconst (v := nI 1) S.1 S.2.1 dX7_must_50 (by decide) ?_
          refine ly_cmne (tgt := 70) S (nI_e2 (by omega) (by omega)) (nI_e1 (by omega) (by omega)) dX7_must_51 (by decide) (fun h5 => ?_) (fun h5 => ?_)
          · skip
            exact absurd h5 (by decide)
          · skip
            refine lv_aload S.1 S.2.1 dX7_must_54 (lv_at hl 0 rfl) ?_
            refine g2 S hI (19 + ci) (cw_cr (by omega)) 1 (by decide) tw_106 rfl dX7_must_56 ?_
            refine ly_top (z := (nI (mu ci))) (by rw [gzl (f := mu) (by omega)]) ?_
            refine lv_istore (lv' := [(5, .int (nI (mu ci))), (4, .ref (b (19 + ci))), (0, .ref (b 0)), (1, .int (nI ci)), (2, .int (nI 1)), (3, .int (nI k))]) S.1 S.2.1 dX7_must_59 hl (by decide) rfl (fun ls hl => ?_)
            refine lv_aload S.1 S.2.1 dX7_must_61 (lv_at hl 1 rfl) ?_
            refine lv_iload_n S.1 S.2.1 dX7_must_63 rfl (lv_at hl 5 rfl) ?_
            refine p2 (ws' := (cW K b w n lap op (va_up mu ci k) ba la en pr fr co cw cj cl rv rc pj pw ch pl lc tl)) S hI (cD hDis) hS (19 + ci) (cw_cr (by omega)) 1 (by decide) tw_106 rfl rfl rfl rfl (Nat.le_of_ble_eq_true rfl) (cs_mu (by omega)) dX7_must_64 (fun H locs hI hS => ?_)
            refine lv_goto (tgt := 83) S.1 S.2.1 dX7_must_67 (by decide) ?_
            refine lv_aload_n S.1 S.2.1 dX7_must_83 rfl (lv_at hl 2 rfl) ?_
            refine kX7_forgetWhatCanBe S hI hS hDis tw_256 (rok (by decide)) hl.1 (Nat.le_of_ble_eq_true rfl) dX7_must_84 (fun u6 H locs hu6 hI hS _ _ => ?_)
            refine lv_iload S.1 S.2.1 dX7_must_87 (lv_at hl 0 rfl) ?_
            exact rw_i S hr hlk (false, co, cw, cj, 0, rv, rc, pj, pw, ch, 0, lc, tl) rfl (VOK_f hVO) hI hS dX7_must_89
        · skip
          exact absurd (ndf_places (by omega) hk hk2) h4
  · skip
    exact absurd h1 (by rw [wiC (by omega) (by omega)]; decide)
theorem kX7_must_c1 {p : Program} {l : Launch} {e : Env} {R : Room} {s : State} {m : MethodId} {args : Array Value} {below : List Frame} {meth : Method} {c : Code} {H H0 : Heap} {locs : List Loc} {cells slots : Nat} {Q : State → Prop} {cc : ByteArray} {nL index pc : Nat} {own : String} {ls : Array Slot} {rest : List Value} {D : va_G} {K : Nat → ClassId} {b : Nat → Nat} {w n lap : Nat} {op mu ba la en : Nat → Nat} {pr : Nat → Option Nat} {fr : Bool} {co : Nat → Nat → Nat} {cw cj : Nat → Int64} {cl : Nat} {rv : Int64} {rc : Nat} {pj : Nat → Nat → Nat} {pw ch : Nat → Nat} {pl lc : Nat} {tl : Nat → Nat} {ci : Nat} {k : Nat} (S : CallFix p m c cc nL s args lw_tb own) (hI : PI D K (cW K b w n lap op mu ba la en pr fr co cw cj cl rv rc pj pw ch pl lc tl) s H) (hS : va_S (adA b 44) H0 H locs) (hDis : Dis b 44) (hG : GOK w n lap op mu ba la en pr) (hVO : VOK w n op mu ba en pr fr co cl rv rc pj pw ch pl lc tl) (hc : ci < n) (hk : k < 2 ^ w) (hk2 : k % 2 = 0) (hlink : Cond.methodLink own index yX7_must ∈ lw_tb) (hR : RO 2 R cells slots) (hsz : ls.size = nL) (hW : (rest.map fun v => v.category).sum ≤ 8) (hdg : decode cc pc = .ok (.invokevirtual index, 3)) (kk : ∀ (u : CSc) (H1 : Heap) (locs1 : List Loc), (VOKu w n op (va_up mu ci k) ba en pr u) → PI D K (cW K b w n lap op (va_up mu ci k) ba la en pr u.1 u.2.1 u.2.2.1 u.2.2.2.1 u.2.2.2.2.1 u.2.2.2.2.2.1 u.2.2.2.2.2.2.1 u.2.2.2.2.2.2.2.1 u.2.2.2.2.2.2.2.2.1 u.2.2.2.2.2.2.2.2.2.1 u.2.2.2.2.2.2.2.2.2.2.1 u.2.2.2.2.2.2.2.2.2.2.2.1 u.2.2.2.2.2.2.2.2.2.2.2.2) s H1 → va_S (adA b 44) H0 H1 locs1 → H.size ≤ H1.size → (∀ q : Nat, q < H.size → ¬ (adA b 44) q → H1[q]? = H[q]?) → W p l e R s m args below meth c H1 locs1 cells slots Q (F0 m (pc + 3) ls ((.int (nI (mu ci))) :: rest))) : W p l e R s m args below meth c H locs cells slots Q (F0 m pc ls (.int (nI k) :: .int (nI 1) :: .int (nI ci) :: .ref (b 0) :: rest)) :=
  kVX (As := [.int (nI ci), .int (nI 1), .int (nI k)]) (b := b 0) S (mX7_must_c1 l hDis hG hVO hc hk hk2) hlink tw_301 tw_302 tw_42 tw_303 (by show _ ∧ _ ∧ _ = some 3; decide +kernel) (by decide) hR blP (piU hI) (va_recv hI.2 hI.1 (ci := 7) (q0 := 0) rfl rfl) hS (fun _ h => h) hsz rfl hW hdg kk

set_option maxHeartbeats 4000000 in
set_option maxRecDepth 100000 in
theorem mX7_must_c0 (l : Launch) {D : va_G} {K : Nat → ClassId} {b : Nat → Nat} {w n lap : Nat} {op mu ba la en : Nat → Nat} {pr : Nat → Option Nat} {fr : Bool} {co : Nat → Nat → Nat} {cw cj : Nat → Int64} {cl : Nat} {rv : Int64} {rc : Nat} {pj : Nat → Nat → Nat} {pw ch : Nat → Nat} {pl lc : Nat} {tl : Nat → Nat} {ci : Nat} {k : Nat} (hDis : Dis b 44) (hG : GOK w n lap op mu ba la en pr) (hVO : VOK w n op mu ba en pr fr co cl rv rc pj pw ch pl lc tl) (hc : ci < n) (hk : k < 2 ^ w) (hk2 : k % 2 = 0) : Met l yX7_must (TWd yX7_must cX7_must 6 (some .int)) (rmk 2) (va_Pc [.ref (b 0), .int (nI ci), .int (nI 0), .int (nI k)] (fun U => PI D K (cW K b w n lap op mu ba la en pr fr co cw cj cl rv rc pj pw ch pl lc tl) U U.heap)) (QX D K (fun u : CSc => some (.int (nI (ba ci)))) (fun u => (cW K b w n lap op mu (va_up ba ci k) la en pr u.1 u.2.1 u.2.2.1 u.2.2.2.1 u.2.2.2.2.1 u.2.2.2.2.2.1 u.2.2.2.2.2.2.1 u.2.2.2.2.2.2.2.1 u.2.2.2.2.2.2.2.2.1 u.2.2.2.2.2.2.2.2.2.1 u.2.2.2.2.2.2.2.2.2.2.1 u.2.2.2.2.2.2.2.2.2.2.2.1 u.2.2.2.2.2.2.2.2.2.2.2.2)) (fun u => VOKu w n op mu (va_up ba ci k) en pr u) (adA b 44)) 0 0 (adA b 44) := by
  refine mt_of (by decide +kernel) (Nat.le_of_ble_eq_true rfl) ?_
  intro p e s m below meth c S hr hlk hI ls hl
  have S : CallFix p m c cX7_must 6 s ([.ref (b 0), .int (nI ci), .int (nI 0), .int (nI k)] : List Value).toArray lw_tb RX7 := S
  have hl : lv_has ls 6 [(0, .ref (b 0)), (1, .int (nI ci)), (2, .int (nI 0)), (3, .int (nI k))] := hl
  have hS : va_S (adA b 44) s.heap s.heap [] := va_S.rf
  obtain ⟨gw1, gw2, gn, gl1, gl2, gop, gmu, gba, gla, gen, gpr, gop2, gmu2, gba2, gla2, gme, gbe, gle, gee⟩ := id hG
  obtain ⟨v1, v2, v3, v4, v5, v6, v7, v8, v9, v10, v11⟩ := id hVO
  have sw : 1 <<< w = 2 ^ w := Nat.one_shiftLeft w
  have pwx : 2 ^ w ≤ 2 ^ 10 := Nat.pow_le_pow_right (by decide) gw2
  have pw3 : 2 ^ 2 ≤ 2 ^ w := Nat.pow_le_pow_right (by decide) gw1
  have pw0 : 2 ^ w ≤ 1024   := pwx
  have pw4 : 4 ≤ 2 ^ w := pw3
  refine lv_aload_n S.1 S.2.1 dX7_must_0 rfl (lv_at hl 0 rfl) ?_
  refine g7 S hI 0 rfl 0 (by decide) tw_236 rfl dX7_must_1 ?_
  refine lv_iload_n S.1 S.2.1 dX7_must_4 rfl (lv_at hl 1 rfl) ?_
  refine kX6_has S hI hG tw_292 (rok (by decide)) hl.1 (Nat.le_of_ble_eq_true rfl) dX7_must_5 ?_
  refine ly_ifne (tgt := 13) S bI_e2 bI_e1 dX7_must_8 (by decide) (fun h1 => ?_) (fun h1 => ?_)
  · skip
    refine lv_iload_n S.1 S.2.1 dX7_must_13 rfl (lv_at hl 2 rfl) ?_
    refine ly_iflt (tgt := 36) S (fun q => (nI_n1 (by omega) q : False)) (fun q => nI_n2 q) dX7_must_14 (by decide) (fun h2 => ?_) (fun h2 => ?_)
    · skip
      exact h2.elim
    · skip
      refine lv_iload_n S.1 S.2.1 dX7_must_17 rfl (lv_at hl 2 rfl) ?_
      refine lv_iconst (v := nI 1) S.1 S.2.1 dX7_must_18 (by decide) ?_
      refine ly_cmgt (tgt := 36) S (nI_l1 (by omega) (by omega)) (nI_l2 (by omega) (by omega)) dX7_must_19 (by decide) (fun h3 => ?_) (fun h3 => ?_)
      · skip
        exact absurd h3 (by decide)
      · skip
        refine lv_iload_n S.1 S.2.1 dX7_must_22 rfl (lv_at hl 3 rfl) ?_
        refine lv_aload_n S.1 S.2.1 dX7_must_23 rfl (lv_at hl 0 rfl) ?_
        refine g7 S hI 0 rfl 0 (by decide) tw_236 rfl dX7_must_24 ?_
        refine kX6_places S hI hG tw_304 (rok (by decide)) hl.1 (Nat.le_of_ble_eq_true rfl) dX7_must_27 ?_
        refine lv_iconst (v := (-1)) S.1 S.2.1 dX7_must_30 (by decide) ?_
        refine lv_ixor S.1 S.2.1 dX7_must_31 ?_
        refine lv_iand S.1 S.2.1 dX7_must_32 ?_
        refine ly_top (z := (nI (ndf k (2 ^ w - 2)))) (nI_andn (by omega) (by omega)) ?_
        refine ly_ifeq (tgt := 39) S (nI_z1 (ndf_lt (by omega))) (nI_z2 (ndf_lt (by omega))) dX7_must_33 (by decide) (fun h4 => ?_) (fun h4 => ?_)
        · skip
          refine lv_aload_n S.1 S.2.1 dX7_must_39 rfl (lv_at hl 0 rfl) ?_
          refine g7 S hI 0 rfl 0 (by decide) tw_236 rfl dX7_must_40 ?_
          refine lv_iload_n S.1 S.2.1 dX7_must_43 rfl (lv_at hl 1 rfl) ?_
          refine kX6_at_c S hI (by omega) (by omega) tw_276 (rok (by decide)) hl.1 (Nat.le_of_ble_eq_true rfl) dX7_must_44 ?_
          refine lv_astore (lv' := [(4, .ref (b (19 + ci))), (0, .ref (b 0)), (1, .int (nI ci)), (2, .int (nI 0)), (3, .int (nI k))]) S.1 S.2.1 dX7_must_47 hl (by decide) rfl (fun ls hl => ?_)
          refine lv_iload_n S.1 S.2.1 dX7_must_49 rfl (lv_at hl 3 rfl) ?_
          refine lv_iconst (v := nI 1) S.1 S.2.1 dX7_must_50 (by decide) ?_
          refine ly_cmne (tgt := 70) S (nI_e2 (by omega) (by omega)) (nI_e1 (by omega) (by omega)) dX7_must_51 (by decide) (fun h5 => ?_) (fun h5 => ?_)
          · skip
            refine lv_aload S.1 S.2.1 dX7_must_70 (lv_at hl 0 rfl) ?_
            refine g2 S hI (19 + ci) (cw_cr (by omega)) 2 (by decide) tw_108 rfl dX7_must_72 ?_
            refine ly_top (z := (nI (ba ci))) (by rw [gzl (f := ba) (by omega)]) ?_
            refine lv_istore (lv' := [(5, .int (nI (ba ci))), (4, .ref (b (19 + ci))), (0, .ref (b 0)), (1, .int (nI ci)), (2, .int (nI 0)), (3, .int (nI k))]) S.1 S.2.1 dX7_must_75 hl (by decide) rfl (fun ls hl => ?_)
            refine lv_aload S.1 S.2.1 dX7_must_77 (lv_at hl 1 rfl) ?_
            refine lv_iload_n S.1 S.2.1 dX7_must_79 rfl (lv_at hl 5 rfl) ?_
            refine p2 (ws' := (cW K b w n lap op mu (va_up ba ci k) la en pr fr co cw cj cl rv rc pj pw ch pl lc tl)) S hI (cD hDis) hS (19 + ci) (cw_cr (by omega)) 2 (by decide) tw_108 rfl rfl rfl rfl (Nat.le_of_ble_eq_true rfl) (cs_ba (by omega)) dX7_must_80 (fun H locs hI hS => ?_)
            refine lv_aload_n S.1 S.2.1 dX7_must_83 rfl (lv_at hl 2 rfl) ?_
            refine kX7_forgetWhatCanBe S hI hS hDis tw_256 (rok (by decide)) hl.1 (Nat.le_of_ble_eq_true rfl) dX7_must_84 (fun u6 H locs hu6 hI hS _ _ => ?_)
            refine lv_iload S.1 S.2.1 dX7_must_87 (lv_at hl 0 rfl) ?_
            exact rw_i S hr hlk (false, co, cw, cj, 0, rv, rc, pj, pw, ch, 0, lc, tl) rfl (VOK_f hVO) hI hS dX7_must_89
          · skip
            exact absurd h5 (by decide)
        · skip
          exact absurd (ndf_places (by omega) hk hk2) h4
  · skip
    exact absurd h1 (by rw [wiC (by omega) (by omega)]; decide)
theorem kX7_must_c0 {p : Program} {l : Launch} {e : Env} {R : Room} {s : State} {m : MethodId} {args : Array Value} {below : List Frame} {meth : Method} {c : Code} {H H0 : Heap} {locs : List Loc} {cells slots : Nat} {Q : State → Prop} {cc : ByteArray} {nL index pc : Nat} {own : String} {ls : Array Slot} {rest : List Value} {D : va_G} {K : Nat → ClassId} {b : Nat → Nat} {w n lap : Nat} {op mu ba la en : Nat → Nat} {pr : Nat → Option Nat} {fr : Bool} {co : Nat → Nat → Nat} {cw cj : Nat → Int64} {cl : Nat} {rv : Int64} {rc : Nat} {pj : Nat → Nat → Nat} {pw ch : Nat → Nat} {pl lc : Nat} {tl : Nat → Nat} {ci : Nat} {k : Nat} (S : CallFix p m c cc nL s args lw_tb own) (hI : PI D K (cW K b w n lap op mu ba la en pr fr co cw cj cl rv rc pj pw ch pl lc tl) s H) (hS : va_S (adA b 44) H0 H locs) (hDis : Dis b 44) (hG : GOK w n lap op mu ba la en pr) (hVO : VOK w n op mu ba en pr fr co cl rv rc pj pw ch pl lc tl) (hc : ci < n) (hk : k < 2 ^ w) (hk2 : k % 2 = 0) (hlink : Cond.methodLink own index yX7_must ∈ lw_tb) (hR : RO 2 R cells slots) (hsz : ls.size = nL) (hW : (rest.map fun v => v.category).sum ≤ 8) (hdg : decode cc pc = .ok (.invokevirtual index, 3)) (kk : ∀ (u : CSc) (H1 : Heap) (locs1 : List Loc), (VOKu w n op mu (va_up ba ci k) en pr u) → PI D K (cW K b w n lap op mu (va_up ba ci k) la en pr u.1 u.2.1 u.2.2.1 u.2.2.2.1 u.2.2.2.2.1 u.2.2.2.2.2.1 u.2.2.2.2.2.2.1 u.2.2.2.2.2.2.2.1 u.2.2.2.2.2.2.2.2.1 u.2.2.2.2.2.2.2.2.2.1 u.2.2.2.2.2.2.2.2.2.2.1 u.2.2.2.2.2.2.2.2.2.2.2.1 u.2.2.2.2.2.2.2.2.2.2.2.2) s H1 → va_S (adA b 44) H0 H1 locs1 → H.size ≤ H1.size → (∀ q : Nat, q < H.size → ¬ (adA b 44) q → H1[q]? = H[q]?) → W p l e R s m args below meth c H1 locs1 cells slots Q (F0 m (pc + 3) ls ((.int (nI (ba ci))) :: rest))) : W p l e R s m args below meth c H locs cells slots Q (F0 m pc ls (.int (nI k) :: .int (nI 0) :: .int (nI ci) :: .ref (b 0) :: rest)) :=
  kVX (As := [.int (nI ci), .int (nI 0), .int (nI k)]) (b := b 0) S (mX7_must_c0 l hDis hG hVO hc hk hk2) hlink tw_301 tw_302 tw_42 tw_303 (by show _ ∧ _ ∧ _ = some 3; decide +kernel) (by decide) hR blP (piU hI) (va_recv hI.2 hI.1 (ci := 7) (q0 := 0) rfl rfl) hS (fun _ h => h) hsz rfl hW hdg kk

set_option maxHeartbeats 4000000 in
set_option maxRecDepth 100000 in
theorem mX7_price_a (l : Launch) {D : va_G} {K : Nat → ClassId} {b : Nat → Nat} {w n lap : Nat} {op mu ba la en : Nat → Nat} {pr : Nat → Option Nat} {fr : Bool} {co : Nat → Nat → Nat} {cw cj : Nat → Int64} {cl : Nat} {rv : Int64} {rc : Nat} {pj : Nat → Nat → Nat} {pw ch : Nat → Nat} {pl lc : Nat} {tl : Nat → Nat} {le : Int32} {v : Int32} (hG : GOK w n lap op mu ba la en pr) (hv : (wiI le (nI 1) (nI 6) && (decide (v = -9) || wiI v (nI 0) (nI 99))) = false) : Met l yX7_price (TWd yX7_price cX7_price 5 (some .int)) (rmk 2) (va_Pc [.ref (b 0), .int le, .int v] (fun U => PI D K (cW K b w n lap op mu ba la en pr fr co cw cj cl rv rc pj pw ch pl lc tl) U U.heap)) (QcRead ((-2))) 0 0 (fun _ => False) := by
  refine mt_of (by decide +kernel) (Nat.le_of_ble_eq_true rfl) ?_
  intro p e s m below meth c S hr hlk hI ls hl
  have S : CallFix p m c cX7_price 5 s ([.ref (b 0), .int le, .int v] : List Value).toArray lw_tb RX7 := S
  have hl : lv_has ls 5 [(0, .ref (b 0)), (1, .int le), (2, .int v)] := hl
  obtain ⟨gw1, gw2, gn, gl1, gl2, gop, gmu, gba, gla, gen, gpr, gop2, gmu2, gba2, gla2, gme, gbe, gle, gee⟩ := id hG
  have J22 : ∀ (ls : Array Slot), lv_has ls 5 [(0, .ref (b 0)), (1, .int le), (2, .int v), (3, .int (bI (decide (v = -9) || wiI v (nI 0) (nI 99))))] → W p l e (rmk 2) s m ([.ref (b 0), .int le, .int v] : List Value).toArray below meth c s.heap [] 0 0 (MQ below (QcRead ((-2))) ([.ref (b 0), .int le, .int v] : List Value).toArray s 0 0 (fun _ => False)) (F0 m 22 ls []) := by
    intro  ls hl
    refine lv_iload_n S.1 S.2.1 dX7_price_22 rfl (lv_at hl 1 rfl) ?_
    refine lv_iconst (v := nI 1) S.1 S.2.1 dX7_price_23 (by decide) ?_
    refine ly_cmlt (tgt := 37) S (fun q => q) (fun q => q) dX7_price_24 (by decide) (fun h1 => ?_) (fun h1 => ?_)
    · skip
      refine lv_bipush (v := (-2)) S.1 S.2.1 dX7_price_37 (by decide) ?_
      exact rt_i S hr hlk rfl dX7_price_39
    · skip
      refine lv_iload_n S.1 S.2.1 dX7_price_27 rfl (lv_at hl 1 rfl) ?_
      refine lv_bipush (v := nI 6) S.1 S.2.1 dX7_price_28 (by decide) ?_
      refine ly_cmgt (tgt := 37) S (fun q => q) (fun q => q) dX7_price_30 (by decide) (fun h2 => ?_) (fun h2 => ?_)
      · skip
        refine lv_bipush (v := (-2)) S.1 S.2.1 dX7_price_37 (by decide) ?_
        exact rt_i S hr hlk rfl dX7_price_39
      · skip
        refine lv_iload_n S.1 S.2.1 dX7_price_33 rfl (lv_at hl 3 rfl) ?_
        refine ly_ifne (tgt := 40) S bI_e2 bI_e1 dX7_price_34 (by decide) (fun h3 => ?_) (fun h3 => ?_)
        · skip
          exact absurd hv (by rw [wiI_t h1 h2, h3]; decide)
        · skip
          refine lv_bipush (v := (-2)) S.1 S.2.1 dX7_price_37 (by decide) ?_
          exact rt_i S hr hlk rfl dX7_price_39
  refine lv_iload_n S.1 S.2.1 dX7_price_0 rfl (lv_at hl 2 rfl) ?_
  refine lv_bipush (v := (-9)) S.1 S.2.1 dX7_price_1 (by decide) ?_
  refine ly_cmeq (tgt := 16) S (fun q => q) (fun q => q) dX7_price_3 (by decide) (fun h4 => ?_) (fun h4 => ?_)
  · skip
    refine lv_iconst (v := nI 1) S.1 S.2.1 dX7_price_16 (by decide) ?_
    refine lv_goto (tgt := 21) S.1 S.2.1 dX7_price_17 (by decide) ?_
    refine ly_top (z := bI (decide (v = -9) || wiI v (nI 0) (nI 99))) (by rw [show (decide (v = -9) || wiI v (nI 0) (nI 99)) = true from (by rw [decide_eq_true h4]; rfl)]; rfl) ?_
    refine lv_istore_n (lv' := [(3, .int (bI (decide (v = -9) || wiI v (nI 0) (nI 99)))), (0, .ref (b 0)), (1, .int le), (2, .int v)]) S.1 S.2.1 dX7_price_21 rfl hl (by decide) rfl (fun ls hl => ?_)
    exact J22  _ (lv_sub hl [1, 2, 3, 0] rfl)
  · skip
    refine lv_iload_n S.1 S.2.1 dX7_price_6 rfl (lv_at hl 2 rfl) ?_
    refine ly_iflt (tgt := 20) S (fun q => q) (fun q => q) dX7_price_7 (by decide) (fun h5 => ?_) (fun h5 => ?_)
    · skip
      refine lv_iconst (v := nI 0) S.1 S.2.1 dX7_price_20 (by decide) ?_
      refine ly_top (z := bI (decide (v = -9) || wiI v (nI 0) (nI 99))) (by rw [show (decide (v = -9) || wiI v (nI 0) (nI 99)) = false from (by rw [decide_eq_false h4, wiI_l (z0 := nI 0) (z1 := nI 99) h5]; rfl)]; rfl) ?_
      refine lv_istore_n (lv' := [(3, .int (bI (decide (v = -9) || wiI v (nI 0) (nI 99)))), (0, .ref (b 0)), (1, .int le), (2, .int v)]) S.1 S.2.1 dX7_price_21 rfl hl (by decide) rfl (fun ls hl => ?_)
      exact J22  _ (lv_sub hl [1, 2, 3, 0] rfl)
    · skip
      refine lv_iload_n S.1 S.2.1 dX7_price_10 rfl (lv_at hl 2 rfl) ?_
      refine lv_bipush (v := nI 99) S.1 S.2.1 dX7_price_11 (by decide) ?_
      refine ly_cmgt (tgt := 20) S (fun q => q) (fun q => q) dX7_price_13 (by decide) (fun h6 => ?_) (fun h6 => ?_)
      · skip
        refine lv_iconst (v := nI 0) S.1 S.2.1 dX7_price_20 (by decide) ?_
        refine ly_top (z := bI (decide (v = -9) || wiI v (nI 0) (nI 99))) (by rw [show (decide (v = -9) || wiI v (nI 0) (nI 99)) = false from (by rw [decide_eq_false h4, wiI_r h6]; rfl)]; rfl) ?_
        refine lv_istore_n (lv' := [(3, .int (bI (decide (v = -9) || wiI v (nI 0) (nI 99)))), (0, .ref (b 0)), (1, .int le), (2, .int v)]) S.1 S.2.1 dX7_price_21 rfl hl (by decide) rfl (fun ls hl => ?_)
        exact J22  _ (lv_sub hl [1, 2, 3, 0] rfl)
      · skip
        refine lv_iconst (v := nI 1) S.1 S.2.1 dX7_price_16 (by decide) ?_
        refine lv_goto (tgt := 21) S.1 S.2.1 dX7_price_17 (by decide) ?_
        refine ly_top (z := bI (decide (v = -9) || wiI v (nI 0) (nI 99))) (by rw [show (decide (v = -9) || wiI v (nI 0) (nI 99)) = true from (by rw [decide_eq_false h4, wiI_t (z0 := nI 0) (z1 := nI 99) h5 h6]; rfl)]; rfl) ?_
        refine lv_istore_n (lv' := [(3, .int (bI (decide (v = -9) || wiI v (nI 0) (nI 99)))), (0, .ref (b 0)), (1, .int le), (2, .int v)]) S.1 S.2.1 dX7_price_21 rfl hl (by decide) rfl (fun ls hl => ?_)
        exact J22  _ (lv_sub hl [1, 2, 3, 0] rfl)
theorem kX7_price_a {p : Program} {l : Launch} {e : Env} {R : Room} {s : State} {m : MethodId} {args : Array Value} {below : List Frame} {meth : Method} {c : Code} {H : Heap} {locs : List Loc} {cells slots : Nat} {Q : State → Prop} {cc : ByteArray} {nL index pc : Nat} {own : String} {ls : Array Slot} {rest : List Value} {D : va_G} {K : Nat → ClassId} {b : Nat → Nat} {w n lap : Nat} {op mu ba la en : Nat → Nat} {pr : Nat → Option Nat} {fr : Bool} {co : Nat → Nat → Nat} {cw cj : Nat → Int64} {cl : Nat} {rv : Int64} {rc : Nat} {pj : Nat → Nat → Nat} {pw ch : Nat → Nat} {pl lc : Nat} {tl : Nat → Nat} {le : Int32} {v : Int32} (S : CallFix p m c cc nL s args lw_tb own) (hI : PI D K (cW K b w n lap op mu ba la en pr fr co cw cj cl rv rc pj pw ch pl lc tl) s H) (hG : GOK w n lap op mu ba la en pr) (hv : (wiI le (nI 1) (nI 6) && (decide (v = -9) || wiI v (nI 0) (nI 99))) = false) (hlink : Cond.methodLink own index yX7_price ∈ lw_tb) (hR : RO 2 R cells slots) (hsz : ls.size = nL) (hW : (rest.map fun v => v.category).sum ≤ 8) (hdg : decode cc pc = .ok (.invokevirtual index, 3)) (kk : W p l e R s m args below meth c H locs cells slots Q (F0 m (pc + 3) ls (.int ((-2)) :: rest))) : W p l e R s m args below meth c H locs cells slots Q (F0 m pc ls (.int v :: .int le :: .ref (b 0) :: rest)) :=
  kV (As := [.int le, .int v]) (b := b 0) S (mX7_price_a l hG hv) hlink tw_310 tw_311 tw_42 tw_312 (by show _ ∧ _ ∧ _ = some 2; decide +kernel) (by decide) hR blP (piU hI) (va_recv hI.2 hI.1 (ci := 7) (q0 := 0) rfl rfl) hsz rfl hW hdg kk

set_option maxHeartbeats 4000000 in
set_option maxRecDepth 100000 in
theorem mX7_price_b (l : Launch) {D : va_G} {K : Nat → ClassId} {b : Nat → Nat} {w n lap : Nat} {op mu ba la en : Nat → Nat} {pr : Nat → Option Nat} {fr : Bool} {co : Nat → Nat → Nat} {cw cj : Nat → Int64} {cl : Nat} {rv : Int64} {rc : Nat} {pj : Nat → Nat → Nat} {pw ch : Nat → Nat} {pl lc : Nat} {tl : Nat → Nat} {L : Nat} {q : Option Nat} (hDis : Dis b 44) (hG : GOK w n lap op mu ba la en pr) (hVO : VOK w n op mu ba en pr fr co cl rv rc pj pw ch pl lc tl) (hL1 : 1 ≤ L) (hL2 : L ≤ 6) (hq : ∀ k, q = some k → k ≤ 99) : Met l yX7_price (TWd yX7_price cX7_price 5 (some .int)) (rmk 2) (va_Pc [.ref (b 0), .int (nI L), .int (pI q)] (fun U => PI D K (cW K b w n lap op mu ba la en pr fr co cw cj cl rv rc pj pw ch pl lc tl) U U.heap)) (QX D K (fun u : CSc => some (.int (pI (pr L)))) (fun u => (cW K b w n lap op mu ba la en (va_up pr L q) u.1 u.2.1 u.2.2.1 u.2.2.2.1 u.2.2.2.2.1 u.2.2.2.2.2.1 u.2.2.2.2.2.2.1 u.2.2.2.2.2.2.2.1 u.2.2.2.2.2.2.2.2.1 u.2.2.2.2.2.2.2.2.2.1 u.2.2.2.2.2.2.2.2.2.2.1 u.2.2.2.2.2.2.2.2.2.2.2.1 u.2.2.2.2.2.2.2.2.2.2.2.2)) (fun u => VOKu w n op mu ba en (va_up pr L q) u) (adA b 44)) 0 0 (adA b 44) := by
  refine mt_of (by decide +kernel) (Nat.le_of_ble_eq_true rfl) ?_
  intro p e s m below meth c S hr hlk hI ls hl
  have S : CallFix p m c cX7_price 5 s ([.ref (b 0), .int (nI L), .int (pI q)] : List Value).toArray lw_tb RX7 := S
  have hl : lv_has ls 5 [(0, .ref (b 0)), (1, .int (nI L)), (2, .int (pI q))] := hl
  have hS : va_S (adA b 44) s.heap s.heap [] := va_S.rf
  obtain ⟨gw1, gw2, gn, gl1, gl2, gop, gmu, gba, gla, gen, gpr, gop2, gmu2, gba2, gla2, gme, gbe, gle, gee⟩ := id hG
  obtain ⟨v1, v2, v3, v4, v5, v6, v7, v8, v9, v10, v11⟩ := id hVO
  have J22 : ∀ (ls : Array Slot), lv_has ls 5 [(0, .ref (b 0)), (1, .int (nI L)), (2, .int (pI q)), (3, .int (bI true))] → W p l e (rmk 2) s m ([.ref (b 0), .int (nI L), .int (pI q)] : List Value).toArray below meth c s.heap [] 0 0 (MQ below (QX D K (fun u : CSc => some (.int (pI (pr L)))) (fun u => (cW K b w n lap op mu ba la en (va_up pr L q) u.1 u.2.1 u.2.2.1 u.2.2.2.1 u.2.2.2.2.1 u.2.2.2.2.2.1 u.2.2.2.2.2.2.1 u.2.2.2.2.2.2.2.1 u.2.2.2.2.2.2.2.2.1 u.2.2.2.2.2.2.2.2.2.1 u.2.2.2.2.2.2.2.2.2.2.1 u.2.2.2.2.2.2.2.2.2.2.2.1 u.2.2.2.2.2.2.2.2.2.2.2.2)) (fun u => VOKu w n op mu ba en (va_up pr L q) u) (adA b 44)) ([.ref (b 0), .int (nI L), .int (pI q)] : List Value).toArray s 0 0 (adA b 44)) (F0 m 22 ls []) := by
    intro  ls hl
    refine lv_iload_n S.1 S.2.1 dX7_price_22 rfl (lv_at hl 1 rfl) ?_
    refine lv_iconst (v := nI 1) S.1 S.2.1 dX7_price_23 (by decide) ?_
    refine ly_cmlt (tgt := 37) S (nI_l1 (by omega) (by omega)) (nI_l2 (by omega) (by omega)) dX7_price_24 (by decide) (fun h1 => ?_) (fun h1 => ?_)
    · skip
      exact absurd h1 (by omega)
    · skip
      refine lv_iload_n S.1 S.2.1 dX7_price_27 rfl (lv_at hl 1 rfl) ?_
      refine lv_bipush (v := nI 6) S.1 S.2.1 dX7_price_28 (by decide) ?_
      refine ly_cmgt (tgt := 37) S (nI_l1 (by omega) (by omega)) (nI_l2 (by omega) (by omega)) dX7_price_30 (by decide) (fun h2 => ?_) (fun h2 => ?_)
      · skip
        exact absurd h2 (by omega)
      · skip
        refine lv_iload_n S.1 S.2.1 dX7_price_33 rfl (lv_at hl 3 rfl) ?_
        refine ly_ifne (tgt := 40) S bI_e2 bI_e1 dX7_price_34 (by decide) (fun h3 => ?_) (fun h3 => ?_)
        · skip
          refine lv_aload_n S.1 S.2.1 dX7_price_40 rfl (lv_at hl 0 rfl) ?_
          refine g7 S hI 0 rfl 0 (by decide) tw_236 rfl dX7_price_41 ?_
          refine g6 S hI 1 rfl 0 (by decide) tw_122 rfl dX7_price_44 ?_
          refine lv_iload_n S.1 S.2.1 dX7_price_47 rfl (lv_at hl 1 rfl) ?_
          refine kX0_priceOf S hI hG (by omega) tw_313 (rok (by decide)) hl.1 (Nat.le_of_ble_eq_true rfl) dX7_price_48 ?_
          refine ly_top (z := (pI (pr L))) (by unfold ppI; rw [if_neg (by omega), if_neg (by omega)]) ?_
          refine lv_istore (lv' := [(4, .int (pI (pr L))), (0, .ref (b 0)), (1, .int (nI L)), (2, .int (pI q)), (3, .int (bI true))]) S.1 S.2.1 dX7_price_51 hl (by decide) rfl (fun ls hl => ?_)
          refine lv_aload_n S.1 S.2.1 dX7_price_53 rfl (lv_at hl 1 rfl) ?_
          refine g7 S hI 0 rfl 0 (by decide) tw_236 rfl dX7_price_54 ?_
          refine g6 S hI 1 rfl 0 (by decide) tw_122 rfl dX7_price_57 ?_
          refine g0 S hI 2 rfl 0 (by decide) tw_86 rfl dX7_price_60 ?_
          refine lv_iload_n S.1 S.2.1 dX7_price_63 rfl (lv_at hl 2 rfl) ?_
          refine lv_iload_n S.1 S.2.1 dX7_price_64 rfl (lv_at hl 3 rfl) ?_
          refine ly_iast (ws' := (cW K b w n lap op mu ba la en (va_up pr L q) fr co cw cj cl rv rc pj pw ch pl lc tl)) S hI (cD hDis) hS 4 rfl (by omega) (by decide) (cs_pr (by omega)) dX7_price_65 (fun H locs hI hS => ?_)
          refine lv_aload_n S.1 S.2.1 dX7_price_66 rfl (lv_at hl 1 rfl) ?_
          refine kX7_forgetWhatCanBe S hI hS hDis tw_256 (rok (by decide)) hl.1 (Nat.le_of_ble_eq_true rfl) dX7_price_67 (fun u4 H locs hu4 hI hS _ _ => ?_)
          refine lv_iload S.1 S.2.1 dX7_price_70 (lv_at hl 0 rfl) ?_
          exact rw_i S hr hlk (false, co, cw, cj, 0, rv, rc, pj, pw, ch, 0, lc, tl) rfl (VOK_f hVO) hI hS dX7_price_72
        · skip
          exact absurd h3 (by decide)
  refine lv_iload_n S.1 S.2.1 dX7_price_0 rfl (lv_at hl 2 rfl) ?_
  refine lv_bipush (v := (-9)) S.1 S.2.1 dX7_price_1 (by decide) ?_
  refine ly_cmeq (tgt := 16) S (fun q => q) (fun q => q) dX7_price_3 (by decide) (fun h5 => ?_) (fun h5 => ?_)
  · skip
    refine lv_iconst (v := nI 1) S.1 S.2.1 dX7_price_16 (by decide) ?_
    refine lv_goto (tgt := 21) S.1 S.2.1 dX7_price_17 (by decide) ?_
    refine ly_top (z := (bI true)) rfl ?_
    refine lv_istore_n (lv' := [(3, .int (bI true)), (0, .ref (b 0)), (1, .int (nI L)), (2, .int (pI q))]) S.1 S.2.1 dX7_price_21 rfl hl (by decide) rfl (fun ls hl => ?_)
    exact J22  _ (lv_sub hl [1, 2, 3, 0] rfl)
  · skip
    refine lv_iload_n S.1 S.2.1 dX7_price_6 rfl (lv_at hl 2 rfl) ?_
    refine ly_iflt (tgt := 20) S (fun q => q) (fun q => q) dX7_price_7 (by decide) (fun h6 => ?_) (fun h6 => ?_)
    · skip
      exact absurd (pI_w hq h5) (by rw [wiI_l (z0 := nI 0) (z1 := nI 99) h6]; decide)
    · skip
      refine lv_iload_n S.1 S.2.1 dX7_price_10 rfl (lv_at hl 2 rfl) ?_
      refine lv_bipush (v := nI 99) S.1 S.2.1 dX7_price_11 (by decide) ?_
      refine ly_cmgt (tgt := 20) S (fun q => q) (fun q => q) dX7_price_13 (by decide) (fun h7 => ?_) (fun h7 => ?_)
      · skip
        exact absurd (pI_w hq h5) (by rw [wiI_r h7]; decide)
      · skip
        refine lv_iconst (v := nI 1) S.1 S.2.1 dX7_price_16 (by decide) ?_
        refine lv_goto (tgt := 21) S.1 S.2.1 dX7_price_17 (by decide) ?_
        refine ly_top (z := (bI true)) rfl ?_
        refine lv_istore_n (lv' := [(3, .int (bI true)), (0, .ref (b 0)), (1, .int (nI L)), (2, .int (pI q))]) S.1 S.2.1 dX7_price_21 rfl hl (by decide) rfl (fun ls hl => ?_)
        exact J22  _ (lv_sub hl [1, 2, 3, 0] rfl)
theorem kX7_price_b {p : Program} {l : Launch} {e : Env} {R : Room} {s : State} {m : MethodId} {args : Array Value} {below : List Frame} {meth : Method} {c : Code} {H H0 : Heap} {locs : List Loc} {cells slots : Nat} {Q : State → Prop} {cc : ByteArray} {nL index pc : Nat} {own : String} {ls : Array Slot} {rest : List Value} {D : va_G} {K : Nat → ClassId} {b : Nat → Nat} {w n lap : Nat} {op mu ba la en : Nat → Nat} {pr : Nat → Option Nat} {fr : Bool} {co : Nat → Nat → Nat} {cw cj : Nat → Int64} {cl : Nat} {rv : Int64} {rc : Nat} {pj : Nat → Nat → Nat} {pw ch : Nat → Nat} {pl lc : Nat} {tl : Nat → Nat} {L : Nat} {q : Option Nat} (S : CallFix p m c cc nL s args lw_tb own) (hI : PI D K (cW K b w n lap op mu ba la en pr fr co cw cj cl rv rc pj pw ch pl lc tl) s H) (hS : va_S (adA b 44) H0 H locs) (hDis : Dis b 44) (hG : GOK w n lap op mu ba la en pr) (hVO : VOK w n op mu ba en pr fr co cl rv rc pj pw ch pl lc tl) (hL1 : 1 ≤ L) (hL2 : L ≤ 6) (hq : ∀ k, q = some k → k ≤ 99) (hlink : Cond.methodLink own index yX7_price ∈ lw_tb) (hR : RO 2 R cells slots) (hsz : ls.size = nL) (hW : (rest.map fun v => v.category).sum ≤ 8) (hdg : decode cc pc = .ok (.invokevirtual index, 3)) (kk : ∀ (u : CSc) (H1 : Heap) (locs1 : List Loc), (VOKu w n op mu ba en (va_up pr L q) u) → PI D K (cW K b w n lap op mu ba la en (va_up pr L q) u.1 u.2.1 u.2.2.1 u.2.2.2.1 u.2.2.2.2.1 u.2.2.2.2.2.1 u.2.2.2.2.2.2.1 u.2.2.2.2.2.2.2.1 u.2.2.2.2.2.2.2.2.1 u.2.2.2.2.2.2.2.2.2.1 u.2.2.2.2.2.2.2.2.2.2.1 u.2.2.2.2.2.2.2.2.2.2.2.1 u.2.2.2.2.2.2.2.2.2.2.2.2) s H1 → va_S (adA b 44) H0 H1 locs1 → H.size ≤ H1.size → (∀ q : Nat, q < H.size → ¬ (adA b 44) q → H1[q]? = H[q]?) → W p l e R s m args below meth c H1 locs1 cells slots Q (F0 m (pc + 3) ls ((.int (pI (pr L))) :: rest))) : W p l e R s m args below meth c H locs cells slots Q (F0 m pc ls (.int (pI q) :: .int (nI L) :: .ref (b 0) :: rest)) :=
  kVX (As := [.int (nI L), .int (pI q)]) (b := b 0) S (mX7_price_b l hDis hG hVO hL1 hL2 hq) hlink tw_310 tw_311 tw_42 tw_312 (by show _ ∧ _ ∧ _ = some 2; decide +kernel) (by decide) hR blP (piU hI) (va_recv hI.2 hI.1 (ci := 7) (q0 := 0) rfl rfl) hS (fun _ h => h) hsz rfl hW hdg kk

set_option maxHeartbeats 4000000 in
set_option maxRecDepth 100000 in
theorem mX7_lap_a (l : Launch) {D : va_G} {K : Nat → ClassId} {b : Nat → Nat} {w n lap : Nat} {op mu ba la en : Nat → Nat} {pr : Nat → Option Nat} {fr : Bool} {co : Nat → Nat → Nat} {cw cj : Nat → Int64} {cl : Nat} {rv : Int64} {rc : Nat} {pj : Nat → Nat → Nat} {pw ch : Nat → Nat} {pl lc : Nat} {tl : Nat → Nat} {v : Int32} (hG : GOK w n lap op mu ba la en pr) (hv : wiI v (nI 1) (nI 3) = false) : Met l yX7_lap (TWd yX7_lap cX7_lap 3 (some .int)) (rmk 0) (va_Pc [.ref (b 0), .int v] (fun U => PI D K (cW K b w n lap op mu ba la en pr fr co cw cj cl rv rc pj pw ch pl lc tl) U U.heap)) (QcRead ((-2))) 0 0 (fun _ => False) := by
  refine mt_of (by decide +kernel) (Nat.le_of_ble_eq_true rfl) ?_
  intro p e s m below meth c S hr hlk hI ls hl
  have S : CallFix p m c cX7_lap 3 s ([.ref (b 0), .int v] : List Value).toArray lw_tb RX7 := S
  have hl : lv_has ls 3 [(0, .ref (b 0)), (1, .int v)] := hl
  obtain ⟨gw1, gw2, gn, gl1, gl2, gop, gmu, gba, gla, gen, gpr, gop2, gmu2, gba2, gla2, gme, gbe, gle, gee⟩ := id hG
  refine lv_iload_n S.1 S.2.1 dX7_lap_0 rfl (lv_at hl 1 rfl) ?_
  refine lv_iconst (v := nI 1) S.1 S.2.1 dX7_lap_1 (by decide) ?_
  refine ly_cmlt (tgt := 10) S (fun q => q) (fun q => q) dX7_lap_2 (by decide) (fun h1 => ?_) (fun h1 => ?_)
  · skip
    refine lv_bipush (v := (-2)) S.1 S.2.1 dX7_lap_10 (by decide) ?_
    exact rt_i S hr hlk rfl dX7_lap_12
  · skip
    refine lv_iload_n S.1 S.2.1 dX7_lap_5 rfl (lv_at hl 1 rfl) ?_
    refine lv_iconst (v := nI 3) S.1 S.2.1 dX7_lap_6 (by decide) ?_
    refine ly_cmle (tgt := 13) S (fun q => q) (fun q => q) dX7_lap_7 (by decide) (fun h2 => ?_) (fun h2 => ?_)
    · skip
      exact absurd (wiI_t h1 (Int32.not_lt.mpr h2)) (by rw [hv]; decide)
    · skip
      refine lv_bipush (v := (-2)) S.1 S.2.1 dX7_lap_10 (by decide) ?_
      exact rt_i S hr hlk rfl dX7_lap_12
theorem kX7_lap_a {p : Program} {l : Launch} {e : Env} {R : Room} {s : State} {m : MethodId} {args : Array Value} {below : List Frame} {meth : Method} {c : Code} {H : Heap} {locs : List Loc} {cells slots : Nat} {Q : State → Prop} {cc : ByteArray} {nL index pc : Nat} {own : String} {ls : Array Slot} {rest : List Value} {D : va_G} {K : Nat → ClassId} {b : Nat → Nat} {w n lap : Nat} {op mu ba la en : Nat → Nat} {pr : Nat → Option Nat} {fr : Bool} {co : Nat → Nat → Nat} {cw cj : Nat → Int64} {cl : Nat} {rv : Int64} {rc : Nat} {pj : Nat → Nat → Nat} {pw ch : Nat → Nat} {pl lc : Nat} {tl : Nat → Nat} {v : Int32} (S : CallFix p m c cc nL s args lw_tb own) (hI : PI D K (cW K b w n lap op mu ba la en pr fr co cw cj cl rv rc pj pw ch pl lc tl) s H) (hG : GOK w n lap op mu ba la en pr) (hv : wiI v (nI 1) (nI 3) = false) (hlink : Cond.methodLink own index yX7_lap ∈ lw_tb) (hR : RO 0 R cells slots) (hsz : ls.size = nL) (hW : (rest.map fun v => v.category).sum ≤ 8) (hdg : decode cc pc = .ok (.invokevirtual index, 3)) (kk : W p l e R s m args below meth c H locs cells slots Q (F0 m (pc + 3) ls (.int ((-2)) :: rest))) : W p l e R s m args below meth c H locs cells slots Q (F0 m pc ls (.int v :: .ref (b 0) :: rest)) :=
  kV (As := [.int v]) (b := b 0) S (mX7_lap_a l hG hv) hlink tw_318 tw_319 tw_42 tw_320 (by show _ ∧ _ ∧ _ = some 1; decide +kernel) (by decide) hR blP (piU hI) (va_recv hI.2 hI.1 (ci := 7) (q0 := 0) rfl rfl) hsz rfl hW hdg kk

set_option maxHeartbeats 4000000 in
set_option maxRecDepth 100000 in
theorem mX7_lap_b (l : Launch) {D : va_G} {K : Nat → ClassId} {b : Nat → Nat} {w n lap : Nat} {op mu ba la en : Nat → Nat} {pr : Nat → Option Nat} {fr : Bool} {co : Nat → Nat → Nat} {cw cj : Nat → Int64} {cl : Nat} {rv : Int64} {rc : Nat} {pj : Nat → Nat → Nat} {pw ch : Nat → Nat} {pl lc : Nat} {tl : Nat → Nat} {k : Nat} (hDis : Dis b 44) (hG : GOK w n lap op mu ba la en pr) (hVO : VOK w n op mu ba en pr fr co cl rv rc pj pw ch pl lc tl) (h1 : 1 ≤ k) (h2 : k ≤ 3) : Met l yX7_lap (TWd yX7_lap cX7_lap 3 (some .int)) (rmk 0) (va_Pc [.ref (b 0), .int (nI k)] (fun U => PI D K (cW K b w n lap op mu ba la en pr fr co cw cj cl rv rc pj pw ch pl lc tl) U U.heap)) (QX D K (fun u : CSc => some (.int (nI lap))) (fun u => (cW K b w n k op mu ba la en pr u.1 u.2.1 u.2.2.1 u.2.2.2.1 u.2.2.2.2.1 u.2.2.2.2.2.1 u.2.2.2.2.2.2.1 u.2.2.2.2.2.2.2.1 u.2.2.2.2.2.2.2.2.1 u.2.2.2.2.2.2.2.2.2.1 u.2.2.2.2.2.2.2.2.2.2.1 u.2.2.2.2.2.2.2.2.2.2.2.1 u.2.2.2.2.2.2.2.2.2.2.2.2)) (fun u => VOKu w n op mu ba en pr u) (adA b 44)) 0 0 (adA b 44) := by
  refine mt_of (by decide +kernel) (Nat.le_of_ble_eq_true rfl) ?_
  intro p e s m below meth c S hr hlk hI ls hl
  have S : CallFix p m c cX7_lap 3 s ([.ref (b 0), .int (nI k)] : List Value).toArray lw_tb RX7 := S
  have hl : lv_has ls 3 [(0, .ref (b 0)), (1, .int (nI k))] := hl
  have hS : va_S (adA b 44) s.heap s.heap [] := va_S.rf
  obtain ⟨gw1, gw2, gn, gl1, gl2, gop, gmu, gba, gla, gen, gpr, gop2, gmu2, gba2, gla2, gme, gbe, gle, gee⟩ := id hG
  obtain ⟨v1, v2, v3, v4, v5, v6, v7, v8, v9, v10, v11⟩ := id hVO
  refine lv_iload_n S.1 S.2.1 dX7_lap_0 rfl (lv_at hl 1 rfl) ?_
  refine lv_iconst (v := nI 1) S.1 S.2.1 dX7_lap_1 (by decide) ?_
  refine ly_cmlt (tgt := 10) S (nI_l1 (by omega) (by omega)) (nI_l2 (by omega) (by omega)) dX7_lap_2 (by decide) (fun h1 => ?_) (fun h1 => ?_)
  · skip
    exact absurd h1 (by omega)
  · skip
    refine lv_iload_n S.1 S.2.1 dX7_lap_5 rfl (lv_at hl 1 rfl) ?_
    refine lv_iconst (v := nI 3) S.1 S.2.1 dX7_lap_6 (by decide) ?_
    refine ly_cmle (tgt := 13) S (nI_le1 (by omega) (by omega)) (nI_le2 (by omega) (by omega)) dX7_lap_7 (by decide) (fun h2 => ?_) (fun h2 => ?_)
    · skip
      refine lv_aload_n S.1 S.2.1 dX7_lap_13 rfl (lv_at hl 0 rfl) ?_
      refine g7 S hI 0 rfl 0 (by decide) tw_236 rfl dX7_lap_14 ?_
      refine g6 S hI 1 rfl 5 (by decide) tw_134 rfl dX7_lap_17 ?_
      refine lv_istore_n (lv' := [(2, .int (nI lap)), (0, .ref (b 0)), (1, .int (nI k))]) S.1 S.2.1 dX7_lap_20 rfl hl (by decide) rfl (fun ls hl => ?_)
      refine lv_aload_n S.1 S.2.1 dX7_lap_21 rfl (lv_at hl 1 rfl) ?_
      refine g7 S hI 0 rfl 0 (by decide) tw_236 rfl dX7_lap_22 ?_
      refine lv_iload_n S.1 S.2.1 dX7_lap_25 rfl (lv_at hl 2 rfl) ?_
      refine p6 (ws' := (cW K b w n k op mu ba la en pr fr co cw cj cl rv rc pj pw ch pl lc tl)) S hI (cD hDis) hS 1 rfl 5 (by decide) tw_134 rfl rfl rfl rfl (Nat.le_of_ble_eq_true rfl) rfl dX7_lap_26 (fun H locs hI hS => ?_)
      refine lv_iload_n S.1 S.2.1 dX7_lap_29 rfl (lv_at hl 0 rfl) ?_
      exact rw_i S hr hlk (fr, co, cw, cj, cl, rv, rc, pj, pw, ch, pl, lc, tl) rfl hVO hI hS dX7_lap_30
    · skip
      exact absurd h2 (by omega)
theorem kX7_lap_b {p : Program} {l : Launch} {e : Env} {R : Room} {s : State} {m : MethodId} {args : Array Value} {below : List Frame} {meth : Method} {c : Code} {H H0 : Heap} {locs : List Loc} {cells slots : Nat} {Q : State → Prop} {cc : ByteArray} {nL index pc : Nat} {own : String} {ls : Array Slot} {rest : List Value} {D : va_G} {K : Nat → ClassId} {b : Nat → Nat} {w n lap : Nat} {op mu ba la en : Nat → Nat} {pr : Nat → Option Nat} {fr : Bool} {co : Nat → Nat → Nat} {cw cj : Nat → Int64} {cl : Nat} {rv : Int64} {rc : Nat} {pj : Nat → Nat → Nat} {pw ch : Nat → Nat} {pl lc : Nat} {tl : Nat → Nat} {k : Nat} (S : CallFix p m c cc nL s args lw_tb own) (hI : PI D K (cW K b w n lap op mu ba la en pr fr co cw cj cl rv rc pj pw ch pl lc tl) s H) (hS : va_S (adA b 44) H0 H locs) (hDis : Dis b 44) (hG : GOK w n lap op mu ba la en pr) (hVO : VOK w n op mu ba en pr fr co cl rv rc pj pw ch pl lc tl) (h1 : 1 ≤ k) (h2 : k ≤ 3) (hlink : Cond.methodLink own index yX7_lap ∈ lw_tb) (hR : RO 0 R cells slots) (hsz : ls.size = nL) (hW : (rest.map fun v => v.category).sum ≤ 8) (hdg : decode cc pc = .ok (.invokevirtual index, 3)) (kk : ∀ (u : CSc) (H1 : Heap) (locs1 : List Loc), (VOKu w n op mu ba en pr u) → PI D K (cW K b w n k op mu ba la en pr u.1 u.2.1 u.2.2.1 u.2.2.2.1 u.2.2.2.2.1 u.2.2.2.2.2.1 u.2.2.2.2.2.2.1 u.2.2.2.2.2.2.2.1 u.2.2.2.2.2.2.2.2.1 u.2.2.2.2.2.2.2.2.2.1 u.2.2.2.2.2.2.2.2.2.2.1 u.2.2.2.2.2.2.2.2.2.2.2.1 u.2.2.2.2.2.2.2.2.2.2.2.2) s H1 → va_S (adA b 44) H0 H1 locs1 → H.size ≤ H1.size → (∀ q : Nat, q < H.size → ¬ (adA b 44) q → H1[q]? = H[q]?) → W p l e R s m args below meth c H1 locs1 cells slots Q (F0 m (pc + 3) ls ((.int (nI lap)) :: rest))) : W p l e R s m args below meth c H locs cells slots Q (F0 m pc ls (.int (nI k) :: .ref (b 0) :: rest)) :=
  kVX (As := [.int (nI k)]) (b := b 0) S (mX7_lap_b l hDis hG hVO h1 h2) hlink tw_318 tw_319 tw_42 tw_320 (by show _ ∧ _ ∧ _ = some 1; decide +kernel) (by decide) hR blP (piU hI) (va_recv hI.2 hI.1 (ci := 7) (q0 := 0) rfl rfl) hS (fun _ h => h) hsz rfl hW hdg kk

set_option maxHeartbeats 4000000 in
set_option maxRecDepth 100000 in
theorem mX7_ends_a (l : Launch) {D : va_G} {K : Nat → ClassId} {b : Nat → Nat} {w n lap : Nat} {op mu ba la en : Nat → Nat} {pr : Nat → Option Nat} {fr : Bool} {co : Nat → Nat → Nat} {cw cj : Nat → Int64} {cl : Nat} {rv : Int64} {rc : Nat} {pj : Nat → Nat → Nat} {pw ch : Nat → Nat} {pl lc : Nat} {tl : Nat → Nat} {od : Int32} {sd : Int32} {z : Int32} (hG : GOK w n lap op mu ba la en pr) (hv : (wiI od (nI 0) (nI 1) && wiI sd (nI 0) (nI 1) && wiI z (nI 0) (nI 126) && !decide (z - z / nI 2 * nI 2 = nI 1)) = false) : Met l yX7_ends (TWd yX7_ends cX7_ends 6 (some .int)) (rmk 2) (va_Pc [.ref (b 0), .int od, .int sd, .int z] (fun U => PI D K (cW K b w n lap op mu ba la en pr fr co cw cj cl rv rc pj pw ch pl lc tl) U U.heap)) (QcRead ((-2))) 0 0 (fun _ => False) := by
  refine mt_of (by decide +kernel) (Nat.le_of_ble_eq_true rfl) ?_
  intro p e s m below meth c S hr hlk hI ls hl
  have S : CallFix p m c cX7_ends 6 s ([.ref (b 0), .int od, .int sd, .int z] : List Value).toArray lw_tb RX7 := S
  have hl : lv_has ls 6 [(0, .ref (b 0)), (1, .int od), (2, .int sd), (3, .int z)] := hl
  obtain ⟨gw1, gw2, gn, gl1, gl2, gop, gmu, gba, gla, gen, gpr, gop2, gmu2, gba2, gla2, gme, gbe, gle, gee⟩ := id hG
  refine lv_iload_n S.1 S.2.1 dX7_ends_0 rfl (lv_at hl 1 rfl) ?_
  refine ly_iflt (tgt := 25) S (fun q => q) (fun q => q) dX7_ends_1 (by decide) (fun h1 => ?_) (fun h1 => ?_)
  · skip
    refine lv_bipush (v := (-2)) S.1 S.2.1 dX7_ends_25 (by decide) ?_
    exact rt_i S hr hlk rfl dX7_ends_27
  · skip
    refine lv_iload_n S.1 S.2.1 dX7_ends_4 rfl (lv_at hl 1 rfl) ?_
    refine lv_iconst (v := nI 1) S.1 S.2.1 dX7_ends_5 (by decide) ?_
    refine ly_cmgt (tgt := 25) S (fun q => q) (fun q => q) dX7_ends_6 (by decide) (fun h2 => ?_) (fun h2 => ?_)
    · skip
      refine lv_bipush (v := (-2)) S.1 S.2.1 dX7_ends_25 (by decide) ?_
      exact rt_i S hr hlk rfl dX7_ends_27
    · skip
      refine lv_iload_n S.1 S.2.1 dX7_ends_9 rfl (lv_at hl 2 rfl) ?_
      refine ly_iflt (tgt := 25) S (fun q => q) (fun q => q) dX7_ends_10 (by decide) (fun h3 => ?_) (fun h3 => ?_)
      · skip
        refine lv_bipush (v := (-2)) S.1 S.2.1 dX7_ends_25 (by decide) ?_
        exact rt_i S hr hlk rfl dX7_ends_27
      · skip
        refine lv_iload_n S.1 S.2.1 dX7_ends_13 rfl (lv_at hl 2 rfl) ?_
        refine lv_iconst (v := nI 1) S.1 S.2.1 dX7_ends_14 (by decide) ?_
        refine ly_cmgt (tgt := 25) S (fun q => q) (fun q => q) dX7_ends_15 (by decide) (fun h4 => ?_) (fun h4 => ?_)
        · skip
          refine lv_bipush (v := (-2)) S.1 S.2.1 dX7_ends_25 (by decide) ?_
          exact rt_i S hr hlk rfl dX7_ends_27
        · skip
          refine lv_iload_n S.1 S.2.1 dX7_ends_18 rfl (lv_at hl 3 rfl) ?_
          refine lv_bipush (v := (-127)) S.1 S.2.1 dX7_ends_19 (by decide) ?_
          refine lv_iand S.1 S.2.1 dX7_ends_21 ?_
          refine ly_ifeq (tgt := 28) S (fun q => q) (fun q => q) dX7_ends_22 (by decide) (fun h5 => ?_) (fun h5 => ?_)
          · skip
            exact absurd h5 (mk_ends (en_z hv h1 h2 h3 h4))
          · skip
            refine lv_bipush (v := (-2)) S.1 S.2.1 dX7_ends_25 (by decide) ?_
            exact rt_i S hr hlk rfl dX7_ends_27
theorem kX7_ends_a {p : Program} {l : Launch} {e : Env} {R : Room} {s : State} {m : MethodId} {args : Array Value} {below : List Frame} {meth : Method} {c : Code} {H : Heap} {locs : List Loc} {cells slots : Nat} {Q : State → Prop} {cc : ByteArray} {nL index pc : Nat} {own : String} {ls : Array Slot} {rest : List Value} {D : va_G} {K : Nat → ClassId} {b : Nat → Nat} {w n lap : Nat} {op mu ba la en : Nat → Nat} {pr : Nat → Option Nat} {fr : Bool} {co : Nat → Nat → Nat} {cw cj : Nat → Int64} {cl : Nat} {rv : Int64} {rc : Nat} {pj : Nat → Nat → Nat} {pw ch : Nat → Nat} {pl lc : Nat} {tl : Nat → Nat} {od : Int32} {sd : Int32} {z : Int32} (S : CallFix p m c cc nL s args lw_tb own) (hI : PI D K (cW K b w n lap op mu ba la en pr fr co cw cj cl rv rc pj pw ch pl lc tl) s H) (hG : GOK w n lap op mu ba la en pr) (hv : (wiI od (nI 0) (nI 1) && wiI sd (nI 0) (nI 1) && wiI z (nI 0) (nI 126) && !decide (z - z / nI 2 * nI 2 = nI 1)) = false) (hlink : Cond.methodLink own index yX7_ends ∈ lw_tb) (hR : RO 2 R cells slots) (hsz : ls.size = nL) (hW : (rest.map fun v => v.category).sum ≤ 8) (hdg : decode cc pc = .ok (.invokevirtual index, 3)) (kk : W p l e R s m args below meth c H locs cells slots Q (F0 m (pc + 3) ls (.int ((-2)) :: rest))) : W p l e R s m args below meth c H locs cells slots Q (F0 m pc ls (.int z :: .int sd :: .int od :: .ref (b 0) :: rest)) :=
  kV (As := [.int od, .int sd, .int z]) (b := b 0) S (mX7_ends_a l hG hv) hlink tw_322 tw_323 tw_42 tw_324 (by show _ ∧ _ ∧ _ = some 3; decide +kernel) (by decide) hR blP (piU hI) (va_recv hI.2 hI.1 (ci := 7) (q0 := 0) rfl rfl) hsz rfl hW hdg kk

set_option maxHeartbeats 4000000 in
set_option maxRecDepth 100000 in
theorem mX7_ends_b (l : Launch) {D : va_G} {K : Nat → ClassId} {b : Nat → Nat} {w n lap : Nat} {op mu ba la en : Nat → Nat} {pr : Nat → Option Nat} {fr : Bool} {co : Nat → Nat → Nat} {cw cj : Nat → Int64} {cl : Nat} {rv : Int64} {rc : Nat} {pj : Nat → Nat → Nat} {pw ch : Nat → Nat} {pl lc : Nat} {tl : Nat → Nat} {od : Nat} {sd : Nat} {k : Nat} (hDis : Dis b 44) (hG : GOK w n lap op mu ba la en pr) (hVO : VOK w n op mu ba en pr fr co cl rv rc pj pw ch pl lc tl) (ho1 : od ≤ 1) (hs1 : sd ≤ 1) (hk1 : k ≤ 126) (hk2 : k % 2 = 0) : Met l yX7_ends (TWd yX7_ends cX7_ends 6 (some .int)) (rmk 2) (va_Pc [.ref (b 0), .int (nI od), .int (nI sd), .int (nI k)] (fun U => PI D K (cW K b w n lap op mu ba la en pr fr co cw cj cl rv rc pj pw ch pl lc tl) U U.heap)) (QX D K (fun u : CSc => some (.int (nI (en (2 * od + sd))))) (fun u => (cW K b w n lap op mu ba la (va_up en (2 * od + sd) k) pr u.1 u.2.1 u.2.2.1 u.2.2.2.1 u.2.2.2.2.1 u.2.2.2.2.2.1 u.2.2.2.2.2.2.1 u.2.2.2.2.2.2.2.1 u.2.2.2.2.2.2.2.2.1 u.2.2.2.2.2.2.2.2.2.1 u.2.2.2.2.2.2.2.2.2.2.1 u.2.2.2.2.2.2.2.2.2.2.2.1 u.2.2.2.2.2.2.2.2.2.2.2.2)) (fun u => VOKu w n op mu ba (va_up en (2 * od + sd) k) pr u) (adA b 44)) 0 0 (adA b 44) := by
  refine mt_of (by decide +kernel) (Nat.le_of_ble_eq_true rfl) ?_
  intro p e s m below meth c S hr hlk hI ls hl
  have S : CallFix p m c cX7_ends 6 s ([.ref (b 0), .int (nI od), .int (nI sd), .int (nI k)] : List Value).toArray lw_tb RX7 := S
  have hl : lv_has ls 6 [(0, .ref (b 0)), (1, .int (nI od)), (2, .int (nI sd)), (3, .int (nI k))] := hl
  have hS : va_S (adA b 44) s.heap s.heap [] := va_S.rf
  obtain ⟨gw1, gw2, gn, gl1, gl2, gop, gmu, gba, gla, gen, gpr, gop2, gmu2, gba2, gla2, gme, gbe, gle, gee⟩ := id hG
  obtain ⟨v1, v2, v3, v4, v5, v6, v7, v8, v9, v10, v11⟩ := id hVO
  refine lv_iload_n S.1 S.2.1 dX7_ends_0 rfl (lv_at hl 1 rfl) ?_
  refine ly_iflt (tgt := 25) S (fun q => (nI_n1 (by omega) q : False)) (fun q => nI_n2 q) dX7_ends_1 (by decide) (fun h1 => ?_) (fun h1 => ?_)
  · skip
    exact h1.elim
  · skip
    refine lv_iload_n S.1 S.2.1 dX7_ends_4 rfl (lv_at hl 1 rfl) ?_
    refine lv_iconst (v := nI 1) S.1 S.2.1 dX7_ends_5 (by decide) ?_
    refine ly_cmgt (tgt := 25) S (nI_l1 (by omega) (by omega)) (nI_l2 (by omega) (by omega)) dX7_ends_6 (by decide) (fun h2 => ?_) (fun h2 => ?_)
    · skip
      exact absurd h2 (by omega)
    · skip
      refine lv_iload_n S.1 S.2.1 dX7_ends_9 rfl (lv_at hl 2 rfl) ?_
      refine ly_iflt (tgt := 25) S (fun q => (nI_n1 (by omega) q : False)) (fun q => nI_n2 q) dX7_ends_10 (by decide) (fun h3 => ?_) (fun h3 => ?_)
      · skip
        exact h3.elim
      · skip
        refine lv_iload_n S.1 S.2.1 dX7_ends_13 rfl (lv_at hl 2 rfl) ?_
        refine lv_iconst (v := nI 1) S.1 S.2.1 dX7_ends_14 (by decide) ?_
        refine ly_cmgt (tgt := 25) S (nI_l1 (by omega) (by omega)) (nI_l2 (by omega) (by omega)) dX7_ends_15 (by decide) (fun h4 => ?_) (fun h4 => ?_)
        · skip
          exact absurd h4 (by omega)
        · skip
          refine lv_iload_n S.1 S.2.1 dX7_ends_18 rfl (lv_at hl 3 rfl) ?_
          refine lv_bipush (v := (-127)) S.1 S.2.1 dX7_ends_19 (by decide) ?_
          refine lv_iand S.1 S.2.1 dX7_ends_21 ?_
          refine ly_ifeq (tgt := 28) S (fun q => q) (fun q => q) dX7_ends_22 (by decide) (fun h5 => ?_) (fun h5 => ?_)
          · skip
            refine lv_aload_n S.1 S.2.1 dX7_ends_28 rfl (lv_at hl 0 rfl) ?_
            refine g7 S hI 0 rfl 0 (by decide) tw_236 rfl dX7_ends_29 ?_
            refine g6 S hI 1 rfl 0 (by decide) tw_122 rfl dX7_ends_32 ?_
            refine g0 S hI 2 rfl 1 (by decide) tw_88 rfl dX7_ends_35 ?_
            refine lv_iload_n S.1 S.2.1 dX7_ends_38 rfl (lv_at hl 1 rfl) ?_
            refine ly_aald (t0 := 4) (v := b (6 + od)) S hI 5 rfl rfl rfl (by omega) (by decide) rfl dX7_ends_39 ?_
            refine lv_astore (lv' := [(4, .ref (b (6 + od))), (0, .ref (b 0)), (1, .int (nI od)), (2, .int (nI sd)), (3, .int (nI k))]) S.1 S.2.1 dX7_ends_40 hl (by decide) rfl (fun ls hl => ?_)
            refine lv_aload S.1 S.2.1 dX7_ends_42 (lv_at hl 0 rfl) ?_
            refine lv_iload_n S.1 S.2.1 dX7_ends_44 rfl (lv_at hl 3 rfl) ?_
            refine ly_iald (v := (nI (if sd < 2 then en (2 * od + sd) else 0))) S hI (6 + od) (cw_en (by omega)) (by omega) (by decide) rfl dX7_ends_45 ?_
            refine ly_top (z := (nI (en (2 * od + sd)))) (by rw [if_pos (by omega)]) ?_
            refine lv_istore (lv' := [(5, .int (nI (en (2 * od + sd)))), (4, .ref (b (6 + od))), (0, .ref (b 0)), (1, .int (nI od)), (2, .int (nI sd)), (3, .int (nI k))]) S.1 S.2.1 dX7_ends_46 hl (by decide) rfl (fun ls hl => ?_)
            refine lv_aload S.1 S.2.1 dX7_ends_48 (lv_at hl 1 rfl) ?_
            refine lv_iload_n S.1 S.2.1 dX7_ends_50 rfl (lv_at hl 4 rfl) ?_
            refine lv_iload_n S.1 S.2.1 dX7_ends_51 rfl (lv_at hl 5 rfl) ?_
            refine ly_iast (ws' := (cW K b w n lap op mu ba la (va_up en (2 * od + sd) k) pr fr co cw cj cl rv rc pj pw ch pl lc tl)) S hI (cD hDis) hS (6 + od) (cw_en (by omega)) (by omega) (by decide) (cs_en (by omega) (by omega)) dX7_ends_52 (fun H locs hI hS => ?_)
            refine lv_aload_n S.1 S.2.1 dX7_ends_53 rfl (lv_at hl 2 rfl) ?_
            refine kX7_forgetWhatCanBe S hI hS hDis tw_256 (rok (by decide)) hl.1 (Nat.le_of_ble_eq_true rfl) dX7_ends_54 (fun u6 H locs hu6 hI hS _ _ => ?_)
            refine lv_iload S.1 S.2.1 dX7_ends_57 (lv_at hl 0 rfl) ?_
            exact rw_i S hr hlk (false, co, cw, cj, 0, rv, rc, pj, pw, ch, 0, lc, tl) rfl (VOK_f hVO) hI hS dX7_ends_59
          · skip
            exact absurd (and_ends hk1 hk2) h5
theorem kX7_ends_b {p : Program} {l : Launch} {e : Env} {R : Room} {s : State} {m : MethodId} {args : Array Value} {below : List Frame} {meth : Method} {c : Code} {H H0 : Heap} {locs : List Loc} {cells slots : Nat} {Q : State → Prop} {cc : ByteArray} {nL index pc : Nat} {own : String} {ls : Array Slot} {rest : List Value} {D : va_G} {K : Nat → ClassId} {b : Nat → Nat} {w n lap : Nat} {op mu ba la en : Nat → Nat} {pr : Nat → Option Nat} {fr : Bool} {co : Nat → Nat → Nat} {cw cj : Nat → Int64} {cl : Nat} {rv : Int64} {rc : Nat} {pj : Nat → Nat → Nat} {pw ch : Nat → Nat} {pl lc : Nat} {tl : Nat → Nat} {od : Nat} {sd : Nat} {k : Nat} (S : CallFix p m c cc nL s args lw_tb own) (hI : PI D K (cW K b w n lap op mu ba la en pr fr co cw cj cl rv rc pj pw ch pl lc tl) s H) (hS : va_S (adA b 44) H0 H locs) (hDis : Dis b 44) (hG : GOK w n lap op mu ba la en pr) (hVO : VOK w n op mu ba en pr fr co cl rv rc pj pw ch pl lc tl) (ho1 : od ≤ 1) (hs1 : sd ≤ 1) (hk1 : k ≤ 126) (hk2 : k % 2 = 0) (hlink : Cond.methodLink own index yX7_ends ∈ lw_tb) (hR : RO 2 R cells slots) (hsz : ls.size = nL) (hW : (rest.map fun v => v.category).sum ≤ 8) (hdg : decode cc pc = .ok (.invokevirtual index, 3)) (kk : ∀ (u : CSc) (H1 : Heap) (locs1 : List Loc), (VOKu w n op mu ba (va_up en (2 * od + sd) k) pr u) → PI D K (cW K b w n lap op mu ba la (va_up en (2 * od + sd) k) pr u.1 u.2.1 u.2.2.1 u.2.2.2.1 u.2.2.2.2.1 u.2.2.2.2.2.1 u.2.2.2.2.2.2.1 u.2.2.2.2.2.2.2.1 u.2.2.2.2.2.2.2.2.1 u.2.2.2.2.2.2.2.2.2.1 u.2.2.2.2.2.2.2.2.2.2.1 u.2.2.2.2.2.2.2.2.2.2.2.1 u.2.2.2.2.2.2.2.2.2.2.2.2) s H1 → va_S (adA b 44) H0 H1 locs1 → H.size ≤ H1.size → (∀ q : Nat, q < H.size → ¬ (adA b 44) q → H1[q]? = H[q]?) → W p l e R s m args below meth c H1 locs1 cells slots Q (F0 m (pc + 3) ls ((.int (nI (en (2 * od + sd)))) :: rest))) : W p l e R s m args below meth c H locs cells slots Q (F0 m pc ls (.int (nI k) :: .int (nI sd) :: .int (nI od) :: .ref (b 0) :: rest)) :=
  kVX (As := [.int (nI od), .int (nI sd), .int (nI k)]) (b := b 0) S (mX7_ends_b l hDis hG hVO ho1 hs1 hk1 hk2) hlink tw_322 tw_323 tw_42 tw_324 (by show _ ∧ _ ∧ _ = some 3; decide +kernel) (by decide) hR blP (piU hI) (va_recv hI.2 hI.1 (ci := 7) (q0 := 0) rfl rfl) hS (fun _ h => h) hsz rfl hW hdg kk

set_option maxHeartbeats 4000000 in
set_option maxRecDepth 100000 in
theorem mX7_ofCourse_a (l : Launch) {D : va_G} {K : Nat → ClassId} {b : Nat → Nat} {w n lap : Nat} {op mu ba la en : Nat → Nat} {pr : Nat → Option Nat} {fr : Bool} {co : Nat → Nat → Nat} {cw cj : Nat → Int64} {cl : Nat} {rv : Int64} {rc : Nat} {pj : Nat → Nat → Nat} {pw ch : Nat → Nat} {pl lc : Nat} {tl : Nat → Nat} {v : Int32} {wh : Int32} (hG : GOK w n lap op mu ba la en pr) (hv : wiI v 0 (nI n - 1) = false) : Met l yX7_ofCourse (TWd yX7_ofCourse cX7_ofCourse 4 (some .int)) (rmk 4) (va_Pc [.ref (b 0), .int v, .int wh] (fun U => PI D K (cW K b w n lap op mu ba la en pr fr co cw cj cl rv rc pj pw ch pl lc tl) U U.heap)) (QcRead ((-1))) 0 0 (fun _ => False) := by
  refine mt_of (by decide +kernel) (Nat.le_of_ble_eq_true rfl) ?_
  intro p e s m below meth c S hr hlk hI ls hl
  have S : CallFix p m c cX7_ofCourse 4 s ([.ref (b 0), .int v, .int wh] : List Value).toArray lw_tb RX7 := S
  have hl : lv_has ls 4 [(0, .ref (b 0)), (1, .int v), (2, .int wh)] := hl
  obtain ⟨gw1, gw2, gn, gl1, gl2, gop, gmu, gba, gla, gen, gpr, gop2, gmu2, gba2, gla2, gme, gbe, gle, gee⟩ := id hG
  refine lv_aload_n S.1 S.2.1 dX7_ofCourse_0 rfl (lv_at hl 0 rfl) ?_
  refine g7 S hI 0 rfl 0 (by decide) tw_236 rfl dX7_ofCourse_1 ?_
  refine lv_iload_n S.1 S.2.1 dX7_ofCourse_4 rfl (lv_at hl 1 rfl) ?_
  refine kX6_has S hI hG tw_292 (rok (by decide)) hl.1 (Nat.le_of_ble_eq_true rfl) dX7_ofCourse_5 ?_
  refine ly_ifne (tgt := 13) S bI_e2 bI_e1 dX7_ofCourse_8 (by decide) (fun h1 => ?_) (fun h1 => ?_)
  · skip
    exact absurd h1 (by rw [hv]; decide)
  · skip
    refine lv_iconst (v := (-1)) S.1 S.2.1 dX7_ofCourse_11 (by decide) ?_
    exact rt_i S hr hlk rfl dX7_ofCourse_12
theorem kX7_ofCourse_a {p : Program} {l : Launch} {e : Env} {R : Room} {s : State} {m : MethodId} {args : Array Value} {below : List Frame} {meth : Method} {c : Code} {H : Heap} {locs : List Loc} {cells slots : Nat} {Q : State → Prop} {cc : ByteArray} {nL index pc : Nat} {own : String} {ls : Array Slot} {rest : List Value} {D : va_G} {K : Nat → ClassId} {b : Nat → Nat} {w n lap : Nat} {op mu ba la en : Nat → Nat} {pr : Nat → Option Nat} {fr : Bool} {co : Nat → Nat → Nat} {cw cj : Nat → Int64} {cl : Nat} {rv : Int64} {rc : Nat} {pj : Nat → Nat → Nat} {pw ch : Nat → Nat} {pl lc : Nat} {tl : Nat → Nat} {v : Int32} {wh : Int32} (S : CallFix p m c cc nL s args lw_tb own) (hI : PI D K (cW K b w n lap op mu ba la en pr fr co cw cj cl rv rc pj pw ch pl lc tl) s H) (hG : GOK w n lap op mu ba la en pr) (hv : wiI v 0 (nI n - 1) = false) (hlink : Cond.methodLink own index yX7_ofCourse ∈ lw_tb) (hR : RO 4 R cells slots) (hsz : ls.size = nL) (hW : (rest.map fun v => v.category).sum ≤ 8) (hdg : decode cc pc = .ok (.invokevirtual index, 3)) (kk : W p l e R s m args below meth c H locs cells slots Q (F0 m (pc + 3) ls (.int ((-1)) :: rest))) : W p l e R s m args below meth c H locs cells slots Q (F0 m pc ls (.int wh :: .int v :: .ref (b 0) :: rest)) :=
  kV (As := [.int v, .int wh]) (b := b 0) S (mX7_ofCourse_a l hG hv) hlink tw_326 tw_327 tw_42 tw_328 (by show _ ∧ _ ∧ _ = some 2; decide +kernel) (by decide) hR blP (piU hI) (va_recv hI.2 hI.1 (ci := 7) (q0 := 0) rfl rfl) hsz rfl hW hdg kk

set_option maxHeartbeats 4000000 in
set_option maxRecDepth 100000 in
theorem mX7_ofCourse_b (l : Launch) {D : va_G} {K : Nat → ClassId} {b : Nat → Nat} {w n lap : Nat} {op mu ba la en : Nat → Nat} {pr : Nat → Option Nat} {fr : Bool} {co : Nat → Nat → Nat} {cw cj : Nat → Int64} {cl : Nat} {rv : Int64} {rc : Nat} {pj : Nat → Nat → Nat} {pw ch : Nat → Nat} {pl lc : Nat} {tl : Nat → Nat} {ci : Nat} {wh : Int32} (hG : GOK w n lap op mu ba la en pr) (hc : ci < n) (hw : wh.toInt < 0 ∨ 4 < wh.toInt) : Met l yX7_ofCourse (TWd yX7_ofCourse cX7_ofCourse 4 (some .int)) (rmk 4) (va_Pc [.ref (b 0), .int (nI ci), .int wh] (fun U => PI D K (cW K b w n lap op mu ba la en pr fr co cw cj cl rv rc pj pw ch pl lc tl) U U.heap)) (QcRead ((-2))) 0 0 (fun _ => False) := by
  refine mt_of (by decide +kernel) (Nat.le_of_ble_eq_true rfl) ?_
  intro p e s m below meth c S hr hlk hI ls hl
  have S : CallFix p m c cX7_ofCourse 4 s ([.ref (b 0), .int (nI ci), .int wh] : List Value).toArray lw_tb RX7 := S
  have hl : lv_has ls 4 [(0, .ref (b 0)), (1, .int (nI ci)), (2, .int wh)] := hl
  obtain ⟨gw1, gw2, gn, gl1, gl2, gop, gmu, gba, gla, gen, gpr, gop2, gmu2, gba2, gla2, gme, gbe, gle, gee⟩ := id hG
  refine lv_aload_n S.1 S.2.1 dX7_ofCourse_0 rfl (lv_at hl 0 rfl) ?_
  refine g7 S hI 0 rfl 0 (by decide) tw_236 rfl dX7_ofCourse_1 ?_
  refine lv_iload_n S.1 S.2.1 dX7_ofCourse_4 rfl (lv_at hl 1 rfl) ?_
  refine kX6_has S hI hG tw_292 (rok (by decide)) hl.1 (Nat.le_of_ble_eq_true rfl) dX7_ofCourse_5 ?_
  refine ly_ifne (tgt := 13) S bI_e2 bI_e1 dX7_ofCourse_8 (by decide) (fun h1 => ?_) (fun h1 => ?_)
  · skip
    refine lv_aload_n S.1 S.2.1 dX7_ofCourse_13 rfl (lv_at hl 0 rfl) ?_
    refine g7 S hI 0 rfl 0 (by decide) tw_236 rfl dX7_ofCourse_14 ?_
    refine lv_iload_n S.1 S.2.1 dX7_ofCourse_17 rfl (lv_at hl 1 rfl) ?_
    refine kX6_at_c S hI (by omega) (by omega) tw_276 (rok (by decide)) hl.1 (Nat.le_of_ble_eq_true rfl) dX7_ofCourse_18 ?_
    refine lv_astore_n (lv' := [(3, .ref (b (19 + ci))), (0, .ref (b 0)), (1, .int (nI ci)), (2, .int wh)]) S.1 S.2.1 dX7_ofCourse_21 rfl hl (by decide) rfl (fun ls hl => ?_)
    refine lv_iload_n S.1 S.2.1 dX7_ofCourse_22 rfl (lv_at hl 3 rfl) ?_
    refine lv_tableOut (tgt := 82) S.1 S.2.1 dX7_ofCourse_23 hw (by decide) ?_
    refine lv_bipush (v := (-2)) S.1 S.2.1 dX7_ofCourse_82 (by decide) ?_
    exact rt_i S hr hlk rfl dX7_ofCourse_84
  · skip
    exact absurd h1 (by rw [wiC (by omega) (by omega)]; decide)
theorem kX7_ofCourse_b {p : Program} {l : Launch} {e : Env} {R : Room} {s : State} {m : MethodId} {args : Array Value} {below : List Frame} {meth : Method} {c : Code} {H : Heap} {locs : List Loc} {cells slots : Nat} {Q : State → Prop} {cc : ByteArray} {nL index pc : Nat} {own : String} {ls : Array Slot} {rest : List Value} {D : va_G} {K : Nat → ClassId} {b : Nat → Nat} {w n lap : Nat} {op mu ba la en : Nat → Nat} {pr : Nat → Option Nat} {fr : Bool} {co : Nat → Nat → Nat} {cw cj : Nat → Int64} {cl : Nat} {rv : Int64} {rc : Nat} {pj : Nat → Nat → Nat} {pw ch : Nat → Nat} {pl lc : Nat} {tl : Nat → Nat} {ci : Nat} {wh : Int32} (S : CallFix p m c cc nL s args lw_tb own) (hI : PI D K (cW K b w n lap op mu ba la en pr fr co cw cj cl rv rc pj pw ch pl lc tl) s H) (hG : GOK w n lap op mu ba la en pr) (hc : ci < n) (hw : wh.toInt < 0 ∨ 4 < wh.toInt) (hlink : Cond.methodLink own index yX7_ofCourse ∈ lw_tb) (hR : RO 4 R cells slots) (hsz : ls.size = nL) (hW : (rest.map fun v => v.category).sum ≤ 8) (hdg : decode cc pc = .ok (.invokevirtual index, 3)) (kk : W p l e R s m args below meth c H locs cells slots Q (F0 m (pc + 3) ls (.int ((-2)) :: rest))) : W p l e R s m args below meth c H locs cells slots Q (F0 m pc ls (.int wh :: .int (nI ci) :: .ref (b 0) :: rest)) :=
  kV (As := [.int (nI ci), .int wh]) (b := b 0) S (mX7_ofCourse_b l hG hc hw) hlink tw_326 tw_327 tw_42 tw_328 (by show _ ∧ _ ∧ _ = some 2; decide +kernel) (by decide) hR blP (piU hI) (va_recv hI.2 hI.1 (ci := 7) (q0 := 0) rfl rfl) hsz rfl hW hdg kk

set_option maxHeartbeats 4000000 in
set_option maxRecDepth 100000 in
theorem mX7_ofCourse_0 (l : Launch) {D : va_G} {K : Nat → ClassId} {b : Nat → Nat} {w n lap : Nat} {op mu ba la en : Nat → Nat} {pr : Nat → Option Nat} {fr : Bool} {co : Nat → Nat → Nat} {cw cj : Nat → Int64} {cl : Nat} {rv : Int64} {rc : Nat} {pj : Nat → Nat → Nat} {pw ch : Nat → Nat} {pl lc : Nat} {tl : Nat → Nat} {ci : Nat} (hG : GOK w n lap op mu ba la en pr) (hc : ci < n) : Met l yX7_ofCourse (TWd yX7_ofCourse cX7_ofCourse 4 (some .int)) (rmk 4) (va_Pc [.ref (b 0), .int (nI ci), .int (nI 0)] (fun U => PI D K (cW K b w n lap op mu ba la en pr fr co cw cj cl rv rc pj pw ch pl lc tl) U U.heap)) (QcRead (nI (op ci))) 0 0 (fun _ => False) := by
  refine mt_of (by decide +kernel) (Nat.le_of_ble_eq_true rfl) ?_
  intro p e s m below meth c S hr hlk hI ls hl
  have S : CallFix p m c cX7_ofCourse 4 s ([.ref (b 0), .int (nI ci), .int (nI 0)] : List Value).toArray lw_tb RX7 := S
  have hl : lv_has ls 4 [(0, .ref (b 0)), (1, .int (nI ci)), (2, .int (nI 0))] := hl
  obtain ⟨gw1, gw2, gn, gl1, gl2, gop, gmu, gba, gla, gen, gpr, gop2, gmu2, gba2, gla2, gme, gbe, gle, gee⟩ := id hG
  refine lv_aload_n S.1 S.2.1 dX7_ofCourse_0 rfl (lv_at hl 0 rfl) ?_
  refine g7 S hI 0 rfl 0 (by decide) tw_236 rfl dX7_ofCourse_1 ?_
  refine lv_iload_n S.1 S.2.1 dX7_ofCourse_4 rfl (lv_at hl 1 rfl) ?_
  refine kX6_has S hI hG tw_292 (rok (by decide)) hl.1 (Nat.le_of_ble_eq_true rfl) dX7_ofCourse_5 ?_
  refine ly_ifne (tgt := 13) S bI_e2 bI_e1 dX7_ofCourse_8 (by decide) (fun h1 => ?_) (fun h1 => ?_)
  · skip
    refine lv_aload_n S.1 S.2.1 dX7_ofCourse_13 rfl (lv_at hl 0 rfl) ?_
    refine g7 S hI 0 rfl 0 (by decide) tw_236 rfl dX7_ofCourse_14 ?_
    refine lv_iload_n S.1 S.2.1 dX7_ofCourse_17 rfl (lv_at hl 1 rfl) ?_
    refine kX6_at_c S hI (by omega) (by omega) tw_276 (rok (by decide)) hl.1 (Nat.le_of_ble_eq_true rfl) dX7_ofCourse_18 ?_
    refine lv_astore_n (lv' := [(3, .ref (b (19 + ci))), (0, .ref (b 0)), (1, .int (nI ci)), (2, .int (nI 0))]) S.1 S.2.1 dX7_ofCourse_21 rfl hl (by decide) rfl (fun ls hl => ?_)
    refine lv_iload_n S.1 S.2.1 dX7_ofCourse_22 rfl (lv_at hl 3 rfl) ?_
    refine lv_tableIn (tgt := 56) (off := 33) S.1 S.2.1 dX7_ofCourse_23 (by decide) (by decide) (by decide) (by decide) ?_
    refine lv_aload_n S.1 S.2.1 dX7_ofCourse_56 rfl (lv_at hl 0 rfl) ?_
    refine g2 S hI (19 + ci) (cw_cr (by omega)) 0 (by decide) tw_103 rfl dX7_ofCourse_57 ?_
    refine ly_top (z := (nI (op ci))) (by rw [gzl (f := op) (by omega)]) ?_
    exact rt_i S hr hlk rfl dX7_ofCourse_60
  · skip
    exact absurd h1 (by rw [wiC (by omega) (by omega)]; decide)
theorem kX7_ofCourse_0 {p : Program} {l : Launch} {e : Env} {R : Room} {s : State} {m : MethodId} {args : Array Value} {below : List Frame} {meth : Method} {c : Code} {H : Heap} {locs : List Loc} {cells slots : Nat} {Q : State → Prop} {cc : ByteArray} {nL index pc : Nat} {own : String} {ls : Array Slot} {rest : List Value} {D : va_G} {K : Nat → ClassId} {b : Nat → Nat} {w n lap : Nat} {op mu ba la en : Nat → Nat} {pr : Nat → Option Nat} {fr : Bool} {co : Nat → Nat → Nat} {cw cj : Nat → Int64} {cl : Nat} {rv : Int64} {rc : Nat} {pj : Nat → Nat → Nat} {pw ch : Nat → Nat} {pl lc : Nat} {tl : Nat → Nat} {ci : Nat} (S : CallFix p m c cc nL s args lw_tb own) (hI : PI D K (cW K b w n lap op mu ba la en pr fr co cw cj cl rv rc pj pw ch pl lc tl) s H) (hG : GOK w n lap op mu ba la en pr) (hc : ci < n) (hlink : Cond.methodLink own index yX7_ofCourse ∈ lw_tb) (hR : RO 4 R cells slots) (hsz : ls.size = nL) (hW : (rest.map fun v => v.category).sum ≤ 8) (hdg : decode cc pc = .ok (.invokevirtual index, 3)) (kk : W p l e R s m args below meth c H locs cells slots Q (F0 m (pc + 3) ls (.int (nI (op ci)) :: rest))) : W p l e R s m args below meth c H locs cells slots Q (F0 m pc ls (.int (nI 0) :: .int (nI ci) :: .ref (b 0) :: rest)) :=
  kV (As := [.int (nI ci), .int (nI 0)]) (b := b 0) S (mX7_ofCourse_0 l hG hc) hlink tw_326 tw_327 tw_42 tw_328 (by show _ ∧ _ ∧ _ = some 2; decide +kernel) (by decide) hR blP (piU hI) (va_recv hI.2 hI.1 (ci := 7) (q0 := 0) rfl rfl) hsz rfl hW hdg kk

set_option maxHeartbeats 4000000 in
set_option maxRecDepth 100000 in
theorem mX7_ofCourse_1 (l : Launch) {D : va_G} {K : Nat → ClassId} {b : Nat → Nat} {w n lap : Nat} {op mu ba la en : Nat → Nat} {pr : Nat → Option Nat} {fr : Bool} {co : Nat → Nat → Nat} {cw cj : Nat → Int64} {cl : Nat} {rv : Int64} {rc : Nat} {pj : Nat → Nat → Nat} {pw ch : Nat → Nat} {pl lc : Nat} {tl : Nat → Nat} {ci : Nat} (hG : GOK w n lap op mu ba la en pr) (hc : ci < n) : Met l yX7_ofCourse (TWd yX7_ofCourse cX7_ofCourse 4 (some .int)) (rmk 4) (va_Pc [.ref (b 0), .int (nI ci), .int (nI 1)] (fun U => PI D K (cW K b w n lap op mu ba la en pr fr co cw cj cl rv rc pj pw ch pl lc tl) U U.heap)) (QcRead (nI (mu ci))) 0 0 (fun _ => False) := by
  refine mt_of (by decide +kernel) (Nat.le_of_ble_eq_true rfl) ?_
  intro p e s m below meth c S hr hlk hI ls hl
  have S : CallFix p m c cX7_ofCourse 4 s ([.ref (b 0), .int (nI ci), .int (nI 1)] : List Value).toArray lw_tb RX7 := S
  have hl : lv_has ls 4 [(0, .ref (b 0)), (1, .int (nI ci)), (2, .int (nI 1))] := hl
  obtain ⟨gw1, gw2, gn, gl1, gl2, gop, gmu, gba, gla, gen, gpr, gop2, gmu2, gba2, gla2, gme, gbe, gle, gee⟩ := id hG
  refine lv_aload_n S.1 S.2.1 dX7_ofCourse_0 rfl (lv_at hl 0 rfl) ?_
  refine g7 S hI 0 rfl 0 (by decide) tw_236 rfl dX7_ofCourse_1 ?_
  refine lv_iload_n S.1 S.2.1 dX7_ofCourse_4 rfl (lv_at hl 1 rfl) ?_
  refine kX6_has S hI hG tw_292 (rok (by decide)) hl.1 (Nat.le_of_ble_eq_true rfl) dX7_ofCourse_5 ?_
  refine ly_ifne (tgt := 13) S bI_e2 bI_e1 dX7_ofCourse_8 (by decide) (fun h1 => ?_) (fun h1 => ?_)
  · skip
    refine lv_aload_n S.1 S.2.1 dX7_ofCourse_13 rfl (lv_at hl 0 rfl) ?_
    refine g7 S hI 0 rfl 0 (by decide) tw_236 rfl dX7_ofCourse_14 ?_
    refine lv_iload_n S.1 S.2.1 dX7_ofCourse_17 rfl (lv_at hl 1 rfl) ?_
    refine kX6_at_c S hI (by omega) (by omega) tw_276 (rok (by decide)) hl.1 (Nat.le_of_ble_eq_true rfl) dX7_ofCourse_18 ?_
    refine lv_astore_n (lv' := [(3, .ref (b (19 + ci))), (0, .ref (b 0)), (1, .int (nI ci)), (2, .int (nI 1))]) S.1 S.2.1 dX7_ofCourse_21 rfl hl (by decide) rfl (fun ls hl => ?_)
    refine lv_iload_n S.1 S.2.1 dX7_ofCourse_22 rfl (lv_at hl 3 rfl) ?_
    refine lv_tableIn (tgt := 61) (off := 38) S.1 S.2.1 dX7_ofCourse_23 (by decide) (by decide) (by decide) (by decide) ?_
    refine lv_aload_n S.1 S.2.1 dX7_ofCourse_61 rfl (lv_at hl 0 rfl) ?_
    refine g2 S hI (19 + ci) (cw_cr (by omega)) 1 (by decide) tw_106 rfl dX7_ofCourse_62 ?_
    refine ly_top (z := (nI (mu ci))) (by rw [gzl (f := mu) (by omega)]) ?_
    exact rt_i S hr hlk rfl dX7_ofCourse_65
  · skip
    exact absurd h1 (by rw [wiC (by omega) (by omega)]; decide)
theorem kX7_ofCourse_1 {p : Program} {l : Launch} {e : Env} {R : Room} {s : State} {m : MethodId} {args : Array Value} {below : List Frame} {meth : Method} {c : Code} {H : Heap} {locs : List Loc} {cells slots : Nat} {Q : State → Prop} {cc : ByteArray} {nL index pc : Nat} {own : String} {ls : Array Slot} {rest : List Value} {D : va_G} {K : Nat → ClassId} {b : Nat → Nat} {w n lap : Nat} {op mu ba la en : Nat → Nat} {pr : Nat → Option Nat} {fr : Bool} {co : Nat → Nat → Nat} {cw cj : Nat → Int64} {cl : Nat} {rv : Int64} {rc : Nat} {pj : Nat → Nat → Nat} {pw ch : Nat → Nat} {pl lc : Nat} {tl : Nat → Nat} {ci : Nat} (S : CallFix p m c cc nL s args lw_tb own) (hI : PI D K (cW K b w n lap op mu ba la en pr fr co cw cj cl rv rc pj pw ch pl lc tl) s H) (hG : GOK w n lap op mu ba la en pr) (hc : ci < n) (hlink : Cond.methodLink own index yX7_ofCourse ∈ lw_tb) (hR : RO 4 R cells slots) (hsz : ls.size = nL) (hW : (rest.map fun v => v.category).sum ≤ 8) (hdg : decode cc pc = .ok (.invokevirtual index, 3)) (kk : W p l e R s m args below meth c H locs cells slots Q (F0 m (pc + 3) ls (.int (nI (mu ci)) :: rest))) : W p l e R s m args below meth c H locs cells slots Q (F0 m pc ls (.int (nI 1) :: .int (nI ci) :: .ref (b 0) :: rest)) :=
  kV (As := [.int (nI ci), .int (nI 1)]) (b := b 0) S (mX7_ofCourse_1 l hG hc) hlink tw_326 tw_327 tw_42 tw_328 (by show _ ∧ _ ∧ _ = some 2; decide +kernel) (by decide) hR blP (piU hI) (va_recv hI.2 hI.1 (ci := 7) (q0 := 0) rfl rfl) hsz rfl hW hdg kk

set_option maxHeartbeats 4000000 in
set_option maxRecDepth 100000 in
theorem mX7_ofCourse_2 (l : Launch) {D : va_G} {K : Nat → ClassId} {b : Nat → Nat} {w n lap : Nat} {op mu ba la en : Nat → Nat} {pr : Nat → Option Nat} {fr : Bool} {co : Nat → Nat → Nat} {cw cj : Nat → Int64} {cl : Nat} {rv : Int64} {rc : Nat} {pj : Nat → Nat → Nat} {pw ch : Nat → Nat} {pl lc : Nat} {tl : Nat → Nat} {ci : Nat} (hG : GOK w n lap op mu ba la en pr) (hc : ci < n) : Met l yX7_ofCourse (TWd yX7_ofCourse cX7_ofCourse 4 (some .int)) (rmk 4) (va_Pc [.ref (b 0), .int (nI ci), .int (nI 2)] (fun U => PI D K (cW K b w n lap op mu ba la en pr fr co cw cj cl rv rc pj pw ch pl lc tl) U U.heap)) (QcRead (nI (ba ci))) 0 0 (fun _ => False) := by
  refine mt_of (by decide +kernel) (Nat.le_of_ble_eq_true rfl) ?_
  intro p e s m below meth c S hr hlk hI ls hl
  have S : CallFix p m c cX7_ofCourse 4 s ([.ref (b 0), .int (nI ci), .int (nI 2)] : List Value).toArray lw_tb RX7 := S
  have hl : lv_has ls 4 [(0, .ref (b 0)), (1, .int (nI ci)), (2, .int (nI 2))] := hl
  obtain ⟨gw1, gw2, gn, gl1, gl2, gop, gmu, gba, gla, gen, gpr, gop2, gmu2, gba2, gla2, gme, gbe, gle, gee⟩ := id hG
  refine lv_aload_n S.1 S.2.1 dX7_ofCourse_0 rfl (lv_at hl 0 rfl) ?_
  refine g7 S hI 0 rfl 0 (by decide) tw_236 rfl dX7_ofCourse_1 ?_
  refine lv_iload_n S.1 S.2.1 dX7_ofCourse_4 rfl (lv_at hl 1 rfl) ?_
  refine kX6_has S hI hG tw_292 (rok (by decide)) hl.1 (Nat.le_of_ble_eq_true rfl) dX7_ofCourse_5 ?_
  refine ly_ifne (tgt := 13) S bI_e2 bI_e1 dX7_ofCourse_8 (by decide) (fun h1 => ?_) (fun h1 => ?_)
  · skip
    refine lv_aload_n S.1 S.2.1 dX7_ofCourse_13 rfl (lv_at hl 0 rfl) ?_
    refine g7 S hI 0 rfl 0 (by decide) tw_236 rfl dX7_ofCourse_14 ?_
    refine lv_iload_n S.1 S.2.1 dX7_ofCourse_17 rfl (lv_at hl 1 rfl) ?_
    refine kX6_at_c S hI (by omega) (by omega) tw_276 (rok (by decide)) hl.1 (Nat.le_of_ble_eq_true rfl) dX7_ofCourse_18 ?_
    refine lv_astore_n (lv' := [(3, .ref (b (19 + ci))), (0, .ref (b 0)), (1, .int (nI ci)), (2, .int (nI 2))]) S.1 S.2.1 dX7_ofCourse_21 rfl hl (by decide) rfl (fun ls hl => ?_)
    refine lv_iload_n S.1 S.2.1 dX7_ofCourse_22 rfl (lv_at hl 3 rfl) ?_
    refine lv_tableIn (tgt := 66) (off := 43) S.1 S.2.1 dX7_ofCourse_23 (by decide) (by decide) (by decide) (by decide) ?_
    refine lv_aload_n S.1 S.2.1 dX7_ofCourse_66 rfl (lv_at hl 0 rfl) ?_
    refine g2 S hI (19 + ci) (cw_cr (by omega)) 2 (by decide) tw_108 rfl dX7_ofCourse_67 ?_
    refine ly_top (z := (nI (ba ci))) (by rw [gzl (f := ba) (by omega)]) ?_
    exact rt_i S hr hlk rfl dX7_ofCourse_70
  · skip
    exact absurd h1 (by rw [wiC (by omega) (by omega)]; decide)
theorem kX7_ofCourse_2 {p : Program} {l : Launch} {e : Env} {R : Room} {s : State} {m : MethodId} {args : Array Value} {below : List Frame} {meth : Method} {c : Code} {H : Heap} {locs : List Loc} {cells slots : Nat} {Q : State → Prop} {cc : ByteArray} {nL index pc : Nat} {own : String} {ls : Array Slot} {rest : List Value} {D : va_G} {K : Nat → ClassId} {b : Nat → Nat} {w n lap : Nat} {op mu ba la en : Nat → Nat} {pr : Nat → Option Nat} {fr : Bool} {co : Nat → Nat → Nat} {cw cj : Nat → Int64} {cl : Nat} {rv : Int64} {rc : Nat} {pj : Nat → Nat → Nat} {pw ch : Nat → Nat} {pl lc : Nat} {tl : Nat → Nat} {ci : Nat} (S : CallFix p m c cc nL s args lw_tb own) (hI : PI D K (cW K b w n lap op mu ba la en pr fr co cw cj cl rv rc pj pw ch pl lc tl) s H) (hG : GOK w n lap op mu ba la en pr) (hc : ci < n) (hlink : Cond.methodLink own index yX7_ofCourse ∈ lw_tb) (hR : RO 4 R cells slots) (hsz : ls.size = nL) (hW : (rest.map fun v => v.category).sum ≤ 8) (hdg : decode cc pc = .ok (.invokevirtual index, 3)) (kk : W p l e R s m args below meth c H locs cells slots Q (F0 m (pc + 3) ls (.int (nI (ba ci)) :: rest))) : W p l e R s m args below meth c H locs cells slots Q (F0 m pc ls (.int (nI 2) :: .int (nI ci) :: .ref (b 0) :: rest)) :=
  kV (As := [.int (nI ci), .int (nI 2)]) (b := b 0) S (mX7_ofCourse_2 l hG hc) hlink tw_326 tw_327 tw_42 tw_328 (by show _ ∧ _ ∧ _ = some 2; decide +kernel) (by decide) hR blP (piU hI) (va_recv hI.2 hI.1 (ci := 7) (q0 := 0) rfl rfl) hsz rfl hW hdg kk

set_option maxHeartbeats 4000000 in
set_option maxRecDepth 100000 in
theorem mX7_ofCourse_4 (l : Launch) {D : va_G} {K : Nat → ClassId} {b : Nat → Nat} {w n lap : Nat} {op mu ba la en : Nat → Nat} {pr : Nat → Option Nat} {fr : Bool} {co : Nat → Nat → Nat} {cw cj : Nat → Int64} {cl : Nat} {rv : Int64} {rc : Nat} {pj : Nat → Nat → Nat} {pw ch : Nat → Nat} {pl lc : Nat} {tl : Nat → Nat} {ci : Nat} (hG : GOK w n lap op mu ba la en pr) (hc : ci < n) : Met l yX7_ofCourse (TWd yX7_ofCourse cX7_ofCourse 4 (some .int)) (rmk 4) (va_Pc [.ref (b 0), .int (nI ci), .int (nI 4)] (fun U => PI D K (cW K b w n lap op mu ba la en pr fr co cw cj cl rv rc pj pw ch pl lc tl) U U.heap)) (QcRead (nI (la ci))) 0 0 (fun _ => False) := by
  refine mt_of (by decide +kernel) (Nat.le_of_ble_eq_true rfl) ?_
  intro p e s m below meth c S hr hlk hI ls hl
  have S : CallFix p m c cX7_ofCourse 4 s ([.ref (b 0), .int (nI ci), .int (nI 4)] : List Value).toArray lw_tb RX7 := S
  have hl : lv_has ls 4 [(0, .ref (b 0)), (1, .int (nI ci)), (2, .int (nI 4))] := hl
  obtain ⟨gw1, gw2, gn, gl1, gl2, gop, gmu, gba, gla, gen, gpr, gop2, gmu2, gba2, gla2, gme, gbe, gle, gee⟩ := id hG
  refine lv_aload_n S.1 S.2.1 dX7_ofCourse_0 rfl (lv_at hl 0 rfl) ?_
  refine g7 S hI 0 rfl 0 (by decide) tw_236 rfl dX7_ofCourse_1 ?_
  refine lv_iload_n S.1 S.2.1 dX7_ofCourse_4 rfl (lv_at hl 1 rfl) ?_
  refine kX6_has S hI hG tw_292 (rok (by decide)) hl.1 (Nat.le_of_ble_eq_true rfl) dX7_ofCourse_5 ?_
  refine ly_ifne (tgt := 13) S bI_e2 bI_e1 dX7_ofCourse_8 (by decide) (fun h1 => ?_) (fun h1 => ?_)
  · skip
    refine lv_aload_n S.1 S.2.1 dX7_ofCourse_13 rfl (lv_at hl 0 rfl) ?_
    refine g7 S hI 0 rfl 0 (by decide) tw_236 rfl dX7_ofCourse_14 ?_
    refine lv_iload_n S.1 S.2.1 dX7_ofCourse_17 rfl (lv_at hl 1 rfl) ?_
    refine kX6_at_c S hI (by omega) (by omega) tw_276 (rok (by decide)) hl.1 (Nat.le_of_ble_eq_true rfl) dX7_ofCourse_18 ?_
    refine lv_astore_n (lv' := [(3, .ref (b (19 + ci))), (0, .ref (b 0)), (1, .int (nI ci)), (2, .int (nI 4))]) S.1 S.2.1 dX7_ofCourse_21 rfl hl (by decide) rfl (fun ls hl => ?_)
    refine lv_iload_n S.1 S.2.1 dX7_ofCourse_22 rfl (lv_at hl 3 rfl) ?_
    refine lv_tableIn (tgt := 77) (off := 54) S.1 S.2.1 dX7_ofCourse_23 (by decide) (by decide) (by decide) (by decide) ?_
    refine lv_aload_n S.1 S.2.1 dX7_ofCourse_77 rfl (lv_at hl 0 rfl) ?_
    refine g2 S hI (19 + ci) (cw_cr (by omega)) 3 (by decide) tw_111 rfl dX7_ofCourse_78 ?_
    refine ly_top (z := (nI (la ci))) (by rw [gzl (f := la) (by omega)]) ?_
    exact rt_i S hr hlk rfl dX7_ofCourse_81
  · skip
    exact absurd h1 (by rw [wiC (by omega) (by omega)]; decide)
theorem kX7_ofCourse_4 {p : Program} {l : Launch} {e : Env} {R : Room} {s : State} {m : MethodId} {args : Array Value} {below : List Frame} {meth : Method} {c : Code} {H : Heap} {locs : List Loc} {cells slots : Nat} {Q : State → Prop} {cc : ByteArray} {nL index pc : Nat} {own : String} {ls : Array Slot} {rest : List Value} {D : va_G} {K : Nat → ClassId} {b : Nat → Nat} {w n lap : Nat} {op mu ba la en : Nat → Nat} {pr : Nat → Option Nat} {fr : Bool} {co : Nat → Nat → Nat} {cw cj : Nat → Int64} {cl : Nat} {rv : Int64} {rc : Nat} {pj : Nat → Nat → Nat} {pw ch : Nat → Nat} {pl lc : Nat} {tl : Nat → Nat} {ci : Nat} (S : CallFix p m c cc nL s args lw_tb own) (hI : PI D K (cW K b w n lap op mu ba la en pr fr co cw cj cl rv rc pj pw ch pl lc tl) s H) (hG : GOK w n lap op mu ba la en pr) (hc : ci < n) (hlink : Cond.methodLink own index yX7_ofCourse ∈ lw_tb) (hR : RO 4 R cells slots) (hsz : ls.size = nL) (hW : (rest.map fun v => v.category).sum ≤ 8) (hdg : decode cc pc = .ok (.invokevirtual index, 3)) (kk : W p l e R s m args below meth c H locs cells slots Q (F0 m (pc + 3) ls (.int (nI (la ci)) :: rest))) : W p l e R s m args below meth c H locs cells slots Q (F0 m pc ls (.int (nI 4) :: .int (nI ci) :: .ref (b 0) :: rest)) :=
  kV (As := [.int (nI ci), .int (nI 4)]) (b := b 0) S (mX7_ofCourse_4 l hG hc) hlink tw_326 tw_327 tw_42 tw_328 (by show _ ∧ _ ∧ _ = some 2; decide +kernel) (by decide) hR blP (piU hI) (va_recv hI.2 hI.1 (ci := 7) (q0 := 0) rfl rfl) hsz rfl hW hdg kk

set_option maxHeartbeats 4000000 in
set_option maxRecDepth 100000 in
theorem mX7_ofCourse_3 (l : Launch) {D : va_G} {K : Nat → ClassId} {b : Nat → Nat} {w n lap : Nat} {op mu ba la en : Nat → Nat} {pr : Nat → Option Nat} {fr : Bool} {co : Nat → Nat → Nat} {cw cj : Nat → Int64} {cl : Nat} {rv : Int64} {rc : Nat} {pj : Nat → Nat → Nat} {pw ch : Nat → Nat} {pl lc : Nat} {tl : Nat → Nat} {ci : Nat} (hDis : Dis b 44) (hG : GOK w n lap op mu ba la en pr) (hVO : VOK w n op mu ba en pr fr co cl rv rc pj pw ch pl lc tl) (hc : ci < n) : Met l yX7_ofCourse (TWd yX7_ofCourse cX7_ofCourse 4 (some .int)) (rmk 4) (va_Pc [.ref (b 0), .int (nI ci), .int (nI 3)] (fun U => PI D K (cW K b w n lap op mu ba la en pr fr co cw cj cl rv rc pj pw ch pl lc tl) U U.heap)) (QX D K (fun u : CSc => some (.int (nI (sumN (spT (op ci)) w)))) (fun u => (cW K b w n lap op mu ba la en pr u.1 u.2.1 u.2.2.1 u.2.2.2.1 u.2.2.2.2.1 u.2.2.2.2.2.1 u.2.2.2.2.2.2.1 u.2.2.2.2.2.2.2.1 u.2.2.2.2.2.2.2.2.1 u.2.2.2.2.2.2.2.2.2.1 u.2.2.2.2.2.2.2.2.2.2.1 u.2.2.2.2.2.2.2.2.2.2.2.1 u.2.2.2.2.2.2.2.2.2.2.2.2)) (fun u => VOKu w n op mu ba en pr u) (adA b 44)) 0 0 (adA b 44) := by
  refine mt_of (by decide +kernel) (Nat.le_of_ble_eq_true rfl) ?_
  intro p e s m below meth c S hr hlk hI ls hl
  have S : CallFix p m c cX7_ofCourse 4 s ([.ref (b 0), .int (nI ci), .int (nI 3)] : List Value).toArray lw_tb RX7 := S
  have hl : lv_has ls 4 [(0, .ref (b 0)), (1, .int (nI ci)), (2, .int (nI 3))] := hl
  have hS : va_S (adA b 44) s.heap s.heap [] := va_S.rf
  obtain ⟨gw1, gw2, gn, gl1, gl2, gop, gmu, gba, gla, gen, gpr, gop2, gmu2, gba2, gla2, gme, gbe, gle, gee⟩ := id hG
  obtain ⟨v1, v2, v3, v4, v5, v6, v7, v8, v9, v10, v11⟩ := id hVO
  refine lv_aload_n S.1 S.2.1 dX7_ofCourse_0 rfl (lv_at hl 0 rfl) ?_
  refine g7 S hI 0 rfl 0 (by decide) tw_236 rfl dX7_ofCourse_1 ?_
  refine lv_iload_n S.1 S.2.1 dX7_ofCourse_4 rfl (lv_at hl 1 rfl) ?_
  refine kX6_has S hI hG tw_292 (rok (by decide)) hl.1 (Nat.le_of_ble_eq_true rfl) dX7_ofCourse_5 ?_
  refine ly_ifne (tgt := 13) S bI_e2 bI_e1 dX7_ofCourse_8 (by decide) (fun h1 => ?_) (fun h1 => ?_)
  · skip
    refine lv_aload_n S.1 S.2.1 dX7_ofCourse_13 rfl (lv_at hl 0 rfl) ?_
    refine g7 S hI 0 rfl 0 (by decide) tw_236 rfl dX7_ofCourse_14 ?_
    refine lv_iload_n S.1 S.2.1 dX7_ofCourse_17 rfl (lv_at hl 1 rfl) ?_
    refine kX6_at_c S hI (by omega) (by omega) tw_276 (rok (by decide)) hl.1 (Nat.le_of_ble_eq_true rfl) dX7_ofCourse_18 ?_
    refine lv_astore_n (lv' := [(3, .ref (b (19 + ci))), (0, .ref (b 0)), (1, .int (nI ci)), (2, .int (nI 3))]) S.1 S.2.1 dX7_ofCourse_21 rfl hl (by decide) rfl (fun ls hl => ?_)
    refine lv_iload_n S.1 S.2.1 dX7_ofCourse_22 rfl (lv_at hl 3 rfl) ?_
    refine lv_tableIn (tgt := 71) (off := 48) S.1 S.2.1 dX7_ofCourse_23 (by decide) (by decide) (by decide) (by decide) ?_
    refine lv_aload_n S.1 S.2.1 dX7_ofCourse_71 rfl (lv_at hl 1 rfl) ?_
    refine lv_aload_n S.1 S.2.1 dX7_ofCourse_72 rfl (lv_at hl 0 rfl) ?_
    refine kX7_spansOf S hI hS hDis hG (by omega) v11 tw_329 (rok (by decide)) hl.1 (Nat.le_of_ble_eq_true rfl) dX7_ofCourse_73 (fun u2 H locs hu2 hI hS _ _ => ?_)
    exact rw_i S hr hlk (fr, co, cw, cj, cl, rv, rc, pj, pw, ch, pl, lc, u2) rfl ⟨v1, v2, v3, v4, v5, v6, v7, v8, v9, v10, hu2⟩ hI hS dX7_ofCourse_76
  · skip
    exact absurd h1 (by rw [wiC (by omega) (by omega)]; decide)
theorem kX7_ofCourse_3 {p : Program} {l : Launch} {e : Env} {R : Room} {s : State} {m : MethodId} {args : Array Value} {below : List Frame} {meth : Method} {c : Code} {H H0 : Heap} {locs : List Loc} {cells slots : Nat} {Q : State → Prop} {cc : ByteArray} {nL index pc : Nat} {own : String} {ls : Array Slot} {rest : List Value} {D : va_G} {K : Nat → ClassId} {b : Nat → Nat} {w n lap : Nat} {op mu ba la en : Nat → Nat} {pr : Nat → Option Nat} {fr : Bool} {co : Nat → Nat → Nat} {cw cj : Nat → Int64} {cl : Nat} {rv : Int64} {rc : Nat} {pj : Nat → Nat → Nat} {pw ch : Nat → Nat} {pl lc : Nat} {tl : Nat → Nat} {ci : Nat} (S : CallFix p m c cc nL s args lw_tb own) (hI : PI D K (cW K b w n lap op mu ba la en pr fr co cw cj cl rv rc pj pw ch pl lc tl) s H) (hS : va_S (adA b 44) H0 H locs) (hDis : Dis b 44) (hG : GOK w n lap op mu ba la en pr) (hVO : VOK w n op mu ba en pr fr co cl rv rc pj pw ch pl lc tl) (hc : ci < n) (hlink : Cond.methodLink own index yX7_ofCourse ∈ lw_tb) (hR : RO 4 R cells slots) (hsz : ls.size = nL) (hW : (rest.map fun v => v.category).sum ≤ 8) (hdg : decode cc pc = .ok (.invokevirtual index, 3)) (kk : ∀ (u : CSc) (H1 : Heap) (locs1 : List Loc), (VOKu w n op mu ba en pr u) → PI D K (cW K b w n lap op mu ba la en pr u.1 u.2.1 u.2.2.1 u.2.2.2.1 u.2.2.2.2.1 u.2.2.2.2.2.1 u.2.2.2.2.2.2.1 u.2.2.2.2.2.2.2.1 u.2.2.2.2.2.2.2.2.1 u.2.2.2.2.2.2.2.2.2.1 u.2.2.2.2.2.2.2.2.2.2.1 u.2.2.2.2.2.2.2.2.2.2.2.1 u.2.2.2.2.2.2.2.2.2.2.2.2) s H1 → va_S (adA b 44) H0 H1 locs1 → H.size ≤ H1.size → (∀ q : Nat, q < H.size → ¬ (adA b 44) q → H1[q]? = H[q]?) → W p l e R s m args below meth c H1 locs1 cells slots Q (F0 m (pc + 3) ls ((.int (nI (sumN (spT (op ci)) w))) :: rest))) : W p l e R s m args below meth c H locs cells slots Q (F0 m pc ls (.int (nI 3) :: .int (nI ci) :: .ref (b 0) :: rest)) :=
  kVX (As := [.int (nI ci), .int (nI 3)]) (b := b 0) S (mX7_ofCourse_3 l hDis hG hVO hc) hlink tw_326 tw_327 tw_42 tw_328 (by show _ ∧ _ ∧ _ = some 2; decide +kernel) (by decide) hR blP (piU hI) (va_recv hI.2 hI.1 (ci := 7) (q0 := 0) rfl rfl) hS (fun _ h => h) hsz rfl hW hdg kk
