set_option maxHeartbeats 4000000 in
set_option maxRecDepth 100000 in
theorem mX8_arePlaces (l : Launch) {D : va_G} {K : Nat → ClassId} {a : Nat → Nat} {w n lap : Nat} {op mu ba la en : Nat → Nat} {pr : Nat → Option Nat} {sc : MSc} {z : Int32} (hG : GOK w n lap op mu ba la en pr) : Met l yX8_arePlaces (TWd yX8_arePlaces cX8_arePlaces 2 (some .boolean)) (rmk 1) (va_Pc [.ref (a 0), .int z] (fun U => PI D K (mW K a w n lap op mu ba la en pr sc) U U.heap)) (QcRead (bI (plI w z))) 0 0 (fun _ => False) := by
  refine mt_of (by decide +kernel) (Nat.le_of_ble_eq_true rfl) ?_
  intro p e s m below meth c S hr hlk hI ls hl
  have S : CallFix p m c cX8_arePlaces 2 s ([.ref (a 0), .int z] : List Value).toArray lw_tb RX8 := S
  have hl : lv_has ls 2 [(0, .ref (a 0)), (1, .int z)] := hl
  obtain ⟨gw1, gw2, gn, gl1, gl2, gop, gmu, gba, gla, gen, gpr, gop2, gmu2, gba2, gla2, gme, gbe, gle, gee⟩ := id hG
  have sw : 1 <<< w = 2 ^ w := Nat.one_shiftLeft w
  have pw : 2 ^ w ≤ 2 ^ 10 := Nat.pow_le_pow_right (by decide) gw2
  have pw3 : 2 ^ 2 ≤ 2 ^ w := Nat.pow_le_pow_right (by decide) gw1
  have pw0 : 2 ^ w ≤ 1024 := pw
  have pw4 : 4 ≤ 2 ^ w := pw3
  refine lv_iload_n S.1 S.2.1 dX8_arePlaces_0 rfl (lv_at hl 1 rfl) ?_
  refine lv_iconst (v := nI 0) S.1 S.2.1 dX8_arePlaces_1 (by decide) ?_
  refine lv_iconst (v := nI 1) S.1 S.2.1 dX8_arePlaces_2 (by decide) ?_
  refine lv_aload_n S.1 S.2.1 dX8_arePlaces_3 rfl (lv_at hl 0 rfl) ?_
  refine g8 S hI 0 rfl 0 (by decide) tw_607 rfl dX8_arePlaces_4 ?_
  refine lv_ishl S.1 S.2.1 dX8_arePlaces_7 ?_
  refine ly_top (z := nI (1 <<< w)) (nI_shl (by omega) (by rw [sw]; omega)) ?_
  refine ly_top (z := (nI (2 ^ w))) (by rw [sw]) ?_
  refine lv_iconst (v := nI 1) S.1 S.2.1 dX8_arePlaces_8 (by decide) ?_
  refine lv_isub S.1 S.2.1 dX8_arePlaces_9 ?_
  refine ly_top (z := nI ((2 ^ w) - 1)) (pk_sub (by omega)) ?_
  refine kX8_within S  tw_658 (rok (by decide)) hl.1 (Nat.le_of_ble_eq_true rfl) dX8_arePlaces_10 ?_
  refine ly_ifeq (tgt := 26) S bI_e1 bI_e2 dX8_arePlaces_13 (by decide) (fun h1 => ?_) (fun h1 => ?_)
  · skip
    refine lv_iconst (v := nI 0) S.1 S.2.1 dX8_arePlaces_26 (by decide) ?_
    exact rt_z0 S hr hlk (by simp [plI, h1]) dX8_arePlaces_27
  · skip
    refine lv_iload_n S.1 S.2.1 dX8_arePlaces_16 rfl (lv_at hl 1 rfl) ?_
    refine lv_iconst (v := nI 2) S.1 S.2.1 dX8_arePlaces_17 (by decide) ?_
    refine lv_irem S.1 S.2.1 dX8_arePlaces_18 (by decide) ?_
    refine ly_ifne (tgt := 26) S (fun q => q) (fun q => q) dX8_arePlaces_19 (by decide) (fun h2 => ?_) (fun h2 => ?_)
    · skip
      refine lv_iconst (v := nI 0) S.1 S.2.1 dX8_arePlaces_26 (by decide) ?_
      exact rt_z0 S hr hlk (by simp [plI, h1, h2]) dX8_arePlaces_27
    · skip
      refine lv_iconst (v := nI 1) S.1 S.2.1 dX8_arePlaces_22 (by decide) ?_
      refine lv_goto (tgt := 27) S.1 S.2.1 dX8_arePlaces_23 (by decide) ?_
      exact rt_z1 S hr hlk (by simp [plI, h1, h2]) dX8_arePlaces_27
theorem kX8_arePlaces {p : Program} {l : Launch} {e : Env} {R : Room} {s : State} {m : MethodId} {args : Array Value} {below : List Frame} {meth : Method} {c : Code} {H : Heap} {locs : List Loc} {cells slots : Nat} {Q : State → Prop} {cc : ByteArray} {nL index pc : Nat} {own : String} {ls : Array Slot} {rest : List Value} {D : va_G} {K : Nat → ClassId} {a : Nat → Nat} {w n lap : Nat} {op mu ba la en : Nat → Nat} {pr : Nat → Option Nat} {sc : MSc} {z : Int32} (S : CallFix p m c cc nL s args lw_tb own) (hI : PI D K (mW K a w n lap op mu ba la en pr sc) s H) (hG : GOK w n lap op mu ba la en pr) (hlink : Cond.methodLink own index yX8_arePlaces ∈ lw_tb) (hR : RO 1 R cells slots) (hsz : ls.size = nL) (hW : (rest.map fun v => v.category).sum ≤ 8) (hdg : decode cc pc = .ok (.invokevirtual index, 3)) (kk : W p l e R s m args below meth c H locs cells slots Q (F0 m (pc + 3) ls (.int (bI (plI w z)) :: rest))) : W p l e R s m args below meth c H locs cells slots Q (F0 m pc ls (.int z :: .ref (a 0) :: rest)) :=
  kV (As := [.int z]) (b := a 0) S (mX8_arePlaces l hG) hlink tw_683 tw_17 tw_50 tw_684 (by show _ ∧ _ ∧ _ = some 1; decide +kernel) (by decide) hR blP (piU hI) (va_recv hI.2 hI.1 (ci := 8) (q0 := 0) rfl rfl) hsz rfl hW hdg kk

set_option maxHeartbeats 4000000 in
set_option maxRecDepth 100000 in
theorem mX8_width_a (l : Launch) {D : va_G} {K : Nat → ClassId} {a : Nat → Nat} {w n lap : Nat} {op mu ba la en : Nat → Nat} {pr : Nat → Option Nat} {sc : MSc} {v : Int32} (hG : GOK w n lap op mu ba la en pr) (hv : wiI v (nI 2) (nI 10) = false) : Met l yX8_width (TWd yX8_width cX8_width 2 (some .int)) (rmk 1) (va_Pc [.ref (a 0), .int v] (fun U => PI D K (mW K a w n lap op mu ba la en pr sc) U U.heap)) (QcRead ((-2))) 0 0 (fun _ => False) := by
  refine mt_of (by decide +kernel) (Nat.le_of_ble_eq_true rfl) ?_
  intro p e s m below meth c S hr hlk hI ls hl
  have S : CallFix p m c cX8_width 2 s ([.ref (a 0), .int v] : List Value).toArray lw_tb RX8 := S
  have hl : lv_has ls 2 [(0, .ref (a 0)), (1, .int v)] := hl
  obtain ⟨gw1, gw2, gn, gl1, gl2, gop, gmu, gba, gla, gen, gpr, gop2, gmu2, gba2, gla2, gme, gbe, gle, gee⟩ := id hG
  refine lv_iload_n S.1 S.2.1 dX8_width_0 rfl (lv_at hl 1 rfl) ?_
  refine lv_iconst (v := nI 2) S.1 S.2.1 dX8_width_1 (by decide) ?_
  refine lv_bipush (v := nI 10) S.1 S.2.1 dX8_width_2 (by decide) ?_
  refine kX8_within S  tw_658 (rok (by decide)) hl.1 (Nat.le_of_ble_eq_true rfl) dX8_width_4 ?_
  refine ly_ifne (tgt := 13) S bI_e2 bI_e1 dX8_width_7 (by decide) (fun h1 => ?_) (fun h1 => ?_)
  · skip
    exact absurd h1 (by rw [hv]; decide)
  · skip
    refine lv_bipush (v := (-2)) S.1 S.2.1 dX8_width_10 (by decide) ?_
    exact rt_i S hr hlk rfl dX8_width_12
theorem kX8_width_a {p : Program} {l : Launch} {e : Env} {R : Room} {s : State} {m : MethodId} {args : Array Value} {below : List Frame} {meth : Method} {c : Code} {H : Heap} {locs : List Loc} {cells slots : Nat} {Q : State → Prop} {cc : ByteArray} {nL index pc : Nat} {own : String} {ls : Array Slot} {rest : List Value} {D : va_G} {K : Nat → ClassId} {a : Nat → Nat} {w n lap : Nat} {op mu ba la en : Nat → Nat} {pr : Nat → Option Nat} {sc : MSc} {v : Int32} (S : CallFix p m c cc nL s args lw_tb own) (hI : PI D K (mW K a w n lap op mu ba la en pr sc) s H) (hG : GOK w n lap op mu ba la en pr) (hv : wiI v (nI 2) (nI 10) = false) (hlink : Cond.methodLink own index yX8_width ∈ lw_tb) (hR : RO 1 R cells slots) (hsz : ls.size = nL) (hW : (rest.map fun v => v.category).sum ≤ 8) (hdg : decode cc pc = .ok (.invokevirtual index, 3)) (kk : W p l e R s m args below meth c H locs cells slots Q (F0 m (pc + 3) ls (.int ((-2)) :: rest))) : W p l e R s m args below meth c H locs cells slots Q (F0 m pc ls (.int v :: .ref (a 0) :: rest)) :=
  kV (As := [.int v]) (b := a 0) S (mX8_width_a l hG hv) hlink tw_655 tw_656 tw_50 tw_657 (by show _ ∧ _ ∧ _ = some 1; decide +kernel) (by decide) hR blP (piU hI) (va_recv hI.2 hI.1 (ci := 8) (q0 := 0) rfl rfl) hsz rfl hW hdg kk

set_option maxHeartbeats 4000000 in
set_option maxRecDepth 100000 in
theorem mX8_width_b (l : Launch) {D : va_G} {K : Nat → ClassId} {a : Nat → Nat} {w n lap : Nat} {op mu ba la en : Nat → Nat} {pr : Nat → Option Nat} {sc : MSc} {k : Nat} (hDis : Dis a 13) (hG : GOK w n lap op mu ba la en pr) (h1 : 2 ≤ k) (h2 : k ≤ 10) : Met l yX8_width (TWd yX8_width cX8_width 2 (some .int)) (rmk 1) (va_Pc [.ref (a 0), .int (nI k)] (fun U => PI D K (mW K a w n lap op mu ba la en pr sc) U U.heap)) (QX D K (fun u : Unit => some (.int (nI 1))) (fun u => (mW K a k 0 lap op mu ba la en pr sc)) (fun u => True) (adA a 13)) 0 0 (adA a 13) := by
  refine mt_of (by decide +kernel) (Nat.le_of_ble_eq_true rfl) ?_
  intro p e s m below meth c S hr hlk hI ls hl
  have S : CallFix p m c cX8_width 2 s ([.ref (a 0), .int (nI k)] : List Value).toArray lw_tb RX8 := S
  have hl : lv_has ls 2 [(0, .ref (a 0)), (1, .int (nI k))] := hl
  have hS : va_S (adA a 13) s.heap s.heap [] := va_S.rf
  obtain ⟨gw1, gw2, gn, gl1, gl2, gop, gmu, gba, gla, gen, gpr, gop2, gmu2, gba2, gla2, gme, gbe, gle, gee⟩ := id hG
  refine lv_iload_n S.1 S.2.1 dX8_width_0 rfl (lv_at hl 1 rfl) ?_
  refine lv_iconst (v := nI 2) S.1 S.2.1 dX8_width_1 (by decide) ?_
  refine lv_bipush (v := nI 10) S.1 S.2.1 dX8_width_2 (by decide) ?_
  refine kX8_within S  tw_658 (rok (by decide)) hl.1 (Nat.le_of_ble_eq_true rfl) dX8_width_4 ?_
  refine ly_ifne (tgt := 13) S bI_e2 bI_e1 dX8_width_7 (by decide) (fun h1 => ?_) (fun h1 => ?_)
  · skip
    refine lv_aload_n S.1 S.2.1 dX8_width_13 rfl (lv_at hl 0 rfl) ?_
    refine lv_iload_n S.1 S.2.1 dX8_width_14 rfl (lv_at hl 1 rfl) ?_
    refine p8 (ws' := (mW K a k n lap op mu ba la en pr sc)) S hI (mD hDis) hS 0 rfl 0 (by decide) tw_607 rfl rfl rfl rfl (Nat.le_of_ble_eq_true rfl) rfl dX8_width_15 (fun H locs hI hS => ?_)
    refine lv_aload_n S.1 S.2.1 dX8_width_18 rfl (lv_at hl 0 rfl) ?_
    refine lv_iconst (v := nI 0) S.1 S.2.1 dX8_width_19 (by decide) ?_
    refine p8 (ws' := (mW K a k 0 lap op mu ba la en pr sc)) S hI (mD hDis) hS 0 rfl 1 (by decide) tw_608 rfl rfl rfl rfl (Nat.le_of_ble_eq_true rfl) rfl dX8_width_20 (fun H locs hI hS => ?_)
    refine lv_iconst (v := nI 1) S.1 S.2.1 dX8_width_23 (by decide) ?_
    exact rw_i S hr hlk () rfl trivial hI hS dX8_width_24
  · skip
    exact absurd h1 (by rw [wiN (by omega) (by omega) (by omega)]; decide)
theorem kX8_width_b {p : Program} {l : Launch} {e : Env} {R : Room} {s : State} {m : MethodId} {args : Array Value} {below : List Frame} {meth : Method} {c : Code} {H H0 : Heap} {locs : List Loc} {cells slots : Nat} {Q : State → Prop} {cc : ByteArray} {nL index pc : Nat} {own : String} {ls : Array Slot} {rest : List Value} {D : va_G} {K : Nat → ClassId} {a : Nat → Nat} {w n lap : Nat} {op mu ba la en : Nat → Nat} {pr : Nat → Option Nat} {sc : MSc} {k : Nat} (S : CallFix p m c cc nL s args lw_tb own) (hI : PI D K (mW K a w n lap op mu ba la en pr sc) s H) (hS : va_S (adA a 13) H0 H locs) (hDis : Dis a 13) (hG : GOK w n lap op mu ba la en pr) (h1 : 2 ≤ k) (h2 : k ≤ 10) (hlink : Cond.methodLink own index yX8_width ∈ lw_tb) (hR : RO 1 R cells slots) (hsz : ls.size = nL) (hW : (rest.map fun v => v.category).sum ≤ 8) (hdg : decode cc pc = .ok (.invokevirtual index, 3)) (kk : ∀ (u : Unit) (H1 : Heap) (locs1 : List Loc), (True) → PI D K (mW K a k 0 lap op mu ba la en pr sc) s H1 → va_S (adA a 13) H0 H1 locs1 → H.size ≤ H1.size → (∀ q : Nat, q < H.size → ¬ (adA a 13) q → H1[q]? = H[q]?) → W p l e R s m args below meth c H1 locs1 cells slots Q (F0 m (pc + 3) ls ((.int (nI 1)) :: rest))) : W p l e R s m args below meth c H locs cells slots Q (F0 m pc ls (.int (nI k) :: .ref (a 0) :: rest)) :=
  kVX (As := [.int (nI k)]) (b := a 0) S (mX8_width_b l hDis hG h1 h2) hlink tw_655 tw_656 tw_50 tw_657 (by show _ ∧ _ ∧ _ = some 1; decide +kernel) (by decide) hR blP (piU hI) (va_recv hI.2 hI.1 (ci := 8) (q0 := 0) rfl rfl) hS (fun _ h => h) hsz rfl hW hdg kk

set_option maxHeartbeats 4000000 in
set_option maxRecDepth 100000 in
theorem mX8_course_a (l : Launch) {D : va_G} {K : Nat → ClassId} {a : Nat → Nat} {w n lap : Nat} {op mu ba la en : Nat → Nat} {pr : Nat → Option Nat} {sc : MSc} (hG : GOK w n lap op mu ba la en pr) (h8 : n = 8) : Met l yX8_course (TWd yX8_course cX8_course 1 (some .int)) (rmk 0) (va_Pc [.ref (a 0)] (fun U => PI D K (mW K a w n lap op mu ba la en pr sc) U U.heap)) (QcRead ((-4))) 0 0 (fun _ => False) := by
  refine mt_of (by decide +kernel) (Nat.le_of_ble_eq_true rfl) ?_
  intro p e s m below meth c S hr hlk hI ls hl
  have S : CallFix p m c cX8_course 1 s ([.ref (a 0)] : List Value).toArray lw_tb RX8 := S
  have hl : lv_has ls 1 [(0, .ref (a 0))] := hl
  obtain ⟨gw1, gw2, gn, gl1, gl2, gop, gmu, gba, gla, gen, gpr, gop2, gmu2, gba2, gla2, gme, gbe, gle, gee⟩ := id hG
  refine lv_aload_n S.1 S.2.1 dX8_course_0 rfl (lv_at hl 0 rfl) ?_
  refine g8 S hI 0 rfl 1 (by decide) tw_608 rfl dX8_course_1 ?_
  refine lv_bipush (v := nI 8) S.1 S.2.1 dX8_course_4 (by decide) ?_
  refine ly_cmne (tgt := 12) S (nI_e2 (by omega) (by omega)) (nI_e1 (by omega) (by omega)) dX8_course_6 (by decide) (fun h1 => ?_) (fun h1 => ?_)
  · skip
    exact absurd h8 h1
  · skip
    refine lv_bipush (v := (-4)) S.1 S.2.1 dX8_course_9 (by decide) ?_
    exact rt_i S hr hlk rfl dX8_course_11
theorem kX8_course_a {p : Program} {l : Launch} {e : Env} {R : Room} {s : State} {m : MethodId} {args : Array Value} {below : List Frame} {meth : Method} {c : Code} {H : Heap} {locs : List Loc} {cells slots : Nat} {Q : State → Prop} {cc : ByteArray} {nL index pc : Nat} {own : String} {ls : Array Slot} {rest : List Value} {D : va_G} {K : Nat → ClassId} {a : Nat → Nat} {w n lap : Nat} {op mu ba la en : Nat → Nat} {pr : Nat → Option Nat} {sc : MSc} (S : CallFix p m c cc nL s args lw_tb own) (hI : PI D K (mW K a w n lap op mu ba la en pr sc) s H) (hG : GOK w n lap op mu ba la en pr) (h8 : n = 8) (hlink : Cond.methodLink own index yX8_course ∈ lw_tb) (hR : RO 0 R cells slots) (hsz : ls.size = nL) (hW : (rest.map fun v => v.category).sum ≤ 8) (hdg : decode cc pc = .ok (.invokevirtual index, 3)) (kk : W p l e R s m args below meth c H locs cells slots Q (F0 m (pc + 3) ls (.int ((-4)) :: rest))) : W p l e R s m args below meth c H locs cells slots Q (F0 m pc ls (.ref (a 0) :: rest)) :=
  kV (As := []) (b := a 0) S (mX8_course_a l hG h8) hlink tw_662 tw_663 tw_50 tw_664 (by show _ ∧ _ ∧ _ = some 0; decide +kernel) (by decide) hR blP (piU hI) (va_recv hI.2 hI.1 (ci := 8) (q0 := 0) rfl rfl) hsz rfl hW hdg kk

set_option maxHeartbeats 4000000 in
set_option maxRecDepth 100000 in
theorem mX8_course_b (l : Launch) {D : va_G} {K : Nat → ClassId} {a : Nat → Nat} {w n lap : Nat} {op mu ba la en : Nat → Nat} {pr : Nat → Option Nat} {sc : MSc} (hDis : Dis a 13) (hG : GOK w n lap op mu ba la en pr) (h8 : n < 8) : Met l yX8_course (TWd yX8_course cX8_course 1 (some .int)) (rmk 0) (va_Pc [.ref (a 0)] (fun U => PI D K (mW K a w n lap op mu ba la en pr sc) U U.heap)) (QX D K (fun u : Unit => some (.int (nI n))) (fun u => (mW K a w (n + 1) lap (va_up op n 0) (va_up mu n 0) (va_up ba n 0) (va_up la n 0) en pr sc)) (fun u => True) (adA a 13)) 0 0 (adA a 13) := by
  refine mt_of (by decide +kernel) (Nat.le_of_ble_eq_true rfl) ?_
  intro p e s m below meth c S hr hlk hI ls hl
  have S : CallFix p m c cX8_course 1 s ([.ref (a 0)] : List Value).toArray lw_tb RX8 := S
  have hl : lv_has ls 1 [(0, .ref (a 0))] := hl
  have hS : va_S (adA a 13) s.heap s.heap [] := va_S.rf
  obtain ⟨gw1, gw2, gn, gl1, gl2, gop, gmu, gba, gla, gen, gpr, gop2, gmu2, gba2, gla2, gme, gbe, gle, gee⟩ := id hG
  refine lv_aload_n S.1 S.2.1 dX8_course_0 rfl (lv_at hl 0 rfl) ?_
  refine g8 S hI 0 rfl 1 (by decide) tw_608 rfl dX8_course_1 ?_
  refine lv_bipush (v := nI 8) S.1 S.2.1 dX8_course_4 (by decide) ?_
  refine ly_cmne (tgt := 12) S (nI_e2 (by omega) (by omega)) (nI_e1 (by omega) (by omega)) dX8_course_6 (by decide) (fun h1 => ?_) (fun h1 => ?_)
  · skip
    refine lv_aload_n S.1 S.2.1 dX8_course_12 rfl (lv_at hl 0 rfl) ?_
    refine g8 S hI 0 rfl 2 (by decide) tw_609 rfl dX8_course_13 ?_
    refine lv_aload_n S.1 S.2.1 dX8_course_16 rfl (lv_at hl 0 rfl) ?_
    refine g8 S hI 0 rfl 1 (by decide) tw_608 rfl dX8_course_17 ?_
    refine lv_iconst (v := nI 0) S.1 S.2.1 dX8_course_20 (by decide) ?_
    refine ly_iast (ws' := (mW K a w n lap (va_up op n 0) mu ba la en pr sc)) S hI (mD hDis) hS 1 rfl (by omega) (by decide) ms_1 dX8_course_21 (fun H locs hI hS => ?_)
    refine lv_aload_n S.1 S.2.1 dX8_course_22 rfl (lv_at hl 0 rfl) ?_
    refine g8 S hI 0 rfl 3 (by decide) tw_610 rfl dX8_course_23 ?_
    refine lv_aload_n S.1 S.2.1 dX8_course_26 rfl (lv_at hl 0 rfl) ?_
    refine g8 S hI 0 rfl 1 (by decide) tw_608 rfl dX8_course_27 ?_
    refine lv_iconst (v := nI 0) S.1 S.2.1 dX8_course_30 (by decide) ?_
    refine ly_iast (ws' := (mW K a w n lap (va_up op n 0) (va_up mu n 0) ba la en pr sc)) S hI (mD hDis) hS 2 rfl (by omega) (by decide) ms_2 dX8_course_31 (fun H locs hI hS => ?_)
    refine lv_aload_n S.1 S.2.1 dX8_course_32 rfl (lv_at hl 0 rfl) ?_
    refine g8 S hI 0 rfl 4 (by decide) tw_611 rfl dX8_course_33 ?_
    refine lv_aload_n S.1 S.2.1 dX8_course_36 rfl (lv_at hl 0 rfl) ?_
    refine g8 S hI 0 rfl 1 (by decide) tw_608 rfl dX8_course_37 ?_
    refine lv_iconst (v := nI 0) S.1 S.2.1 dX8_course_40 (by decide) ?_
    refine ly_iast (ws' := (mW K a w n lap (va_up op n 0) (va_up mu n 0) (va_up ba n 0) la en pr sc)) S hI (mD hDis) hS 3 rfl (by omega) (by decide) ms_3 dX8_course_41 (fun H locs hI hS => ?_)
    refine lv_aload_n S.1 S.2.1 dX8_course_42 rfl (lv_at hl 0 rfl) ?_
    refine g8 S hI 0 rfl 5 (by decide) tw_612 rfl dX8_course_43 ?_
    refine lv_aload_n S.1 S.2.1 dX8_course_46 rfl (lv_at hl 0 rfl) ?_
    refine g8 S hI 0 rfl 1 (by decide) tw_608 rfl dX8_course_47 ?_
    refine lv_iconst (v := nI 0) S.1 S.2.1 dX8_course_50 (by decide) ?_
    refine ly_iast (ws' := (mW K a w n lap (va_up op n 0) (va_up mu n 0) (va_up ba n 0) (va_up la n 0) en pr sc)) S hI (mD hDis) hS 4 rfl (by omega) (by decide) ms_4 dX8_course_51 (fun H locs hI hS => ?_)
    refine lv_aload_n S.1 S.2.1 dX8_course_52 rfl (lv_at hl 0 rfl) ?_
    refine lv_dup S.1 S.2.1 dX8_course_53 rfl ?_
    refine g8 S hI 0 rfl 1 (by decide) tw_608 rfl dX8_course_54 ?_
    refine lv_iconst (v := nI 1) S.1 S.2.1 dX8_course_57 (by decide) ?_
    refine lv_iadd S.1 S.2.1 dX8_course_58 ?_
    refine ly_top (z := nI (n + 1)) (nI_add _ _) ?_
    refine p8 (ws' := (mW K a w (n + 1) lap (va_up op n 0) (va_up mu n 0) (va_up ba n 0) (va_up la n 0) en pr sc)) S hI (mD hDis) hS 0 rfl 1 (by decide) tw_608 rfl rfl rfl rfl (Nat.le_of_ble_eq_true rfl) rfl dX8_course_59 (fun H locs hI hS => ?_)
    refine lv_aload_n S.1 S.2.1 dX8_course_62 rfl (lv_at hl 0 rfl) ?_
    refine g8 S hI 0 rfl 1 (by decide) tw_608 rfl dX8_course_63 ?_
    refine lv_iconst (v := nI 1) S.1 S.2.1 dX8_course_66 (by decide) ?_
    refine lv_isub S.1 S.2.1 dX8_course_67 ?_
    refine ly_top (z := nI ((n + 1) - 1)) (pk_sub (by omega)) ?_
    exact rw_i S hr hlk () rfl trivial hI hS dX8_course_68
  · skip
    exact absurd h1 (by omega)
theorem kX8_course_b {p : Program} {l : Launch} {e : Env} {R : Room} {s : State} {m : MethodId} {args : Array Value} {below : List Frame} {meth : Method} {c : Code} {H H0 : Heap} {locs : List Loc} {cells slots : Nat} {Q : State → Prop} {cc : ByteArray} {nL index pc : Nat} {own : String} {ls : Array Slot} {rest : List Value} {D : va_G} {K : Nat → ClassId} {a : Nat → Nat} {w n lap : Nat} {op mu ba la en : Nat → Nat} {pr : Nat → Option Nat} {sc : MSc} (S : CallFix p m c cc nL s args lw_tb own) (hI : PI D K (mW K a w n lap op mu ba la en pr sc) s H) (hS : va_S (adA a 13) H0 H locs) (hDis : Dis a 13) (hG : GOK w n lap op mu ba la en pr) (h8 : n < 8) (hlink : Cond.methodLink own index yX8_course ∈ lw_tb) (hR : RO 0 R cells slots) (hsz : ls.size = nL) (hW : (rest.map fun v => v.category).sum ≤ 8) (hdg : decode cc pc = .ok (.invokevirtual index, 3)) (kk : ∀ (u : Unit) (H1 : Heap) (locs1 : List Loc), (True) → PI D K (mW K a w (n + 1) lap (va_up op n 0) (va_up mu n 0) (va_up ba n 0) (va_up la n 0) en pr sc) s H1 → va_S (adA a 13) H0 H1 locs1 → H.size ≤ H1.size → (∀ q : Nat, q < H.size → ¬ (adA a 13) q → H1[q]? = H[q]?) → W p l e R s m args below meth c H1 locs1 cells slots Q (F0 m (pc + 3) ls ((.int (nI n)) :: rest))) : W p l e R s m args below meth c H locs cells slots Q (F0 m pc ls (.ref (a 0) :: rest)) :=
  kVX (As := []) (b := a 0) S (mX8_course_b l hDis hG h8) hlink tw_662 tw_663 tw_50 tw_664 (by show _ ∧ _ ∧ _ = some 0; decide +kernel) (by decide) hR blP (piU hI) (va_recv hI.2 hI.1 (ci := 8) (q0 := 0) rfl rfl) hS (fun _ h => h) hsz rfl hW hdg kk

set_option maxHeartbeats 4000000 in
set_option maxRecDepth 100000 in
theorem mX8_take_a (l : Launch) {D : va_G} {K : Nat → ClassId} {a : Nat → Nat} {w n lap : Nat} {op mu ba la en : Nat → Nat} {pr : Nat → Option Nat} {sc : MSc} (hG : GOK w n lap op mu ba la en pr) (h0 : n = 0) : Met l yX8_take (TWd yX8_take cX8_take 1 (some .int)) (rmk 0) (va_Pc [.ref (a 0)] (fun U => PI D K (mW K a w n lap op mu ba la en pr sc) U U.heap)) (QcRead ((-3))) 0 0 (fun _ => False) := by
  refine mt_of (by decide +kernel) (Nat.le_of_ble_eq_true rfl) ?_
  intro p e s m below meth c S hr hlk hI ls hl
  have S : CallFix p m c cX8_take 1 s ([.ref (a 0)] : List Value).toArray lw_tb RX8 := S
  have hl : lv_has ls 1 [(0, .ref (a 0))] := hl
  obtain ⟨gw1, gw2, gn, gl1, gl2, gop, gmu, gba, gla, gen, gpr, gop2, gmu2, gba2, gla2, gme, gbe, gle, gee⟩ := id hG
  refine lv_aload_n S.1 S.2.1 dX8_take_0 rfl (lv_at hl 0 rfl) ?_
  refine g8 S hI 0 rfl 1 (by decide) tw_608 rfl dX8_take_1 ?_
  refine ly_ifne (tgt := 10) S (nI_z2 (by omega)) (nI_z1 (by omega)) dX8_take_4 (by decide) (fun h1 => ?_) (fun h1 => ?_)
  · skip
    exact absurd h0 h1
  · skip
    refine lv_bipush (v := (-3)) S.1 S.2.1 dX8_take_7 (by decide) ?_
    exact rt_i S hr hlk rfl dX8_take_9
theorem kX8_take_a {p : Program} {l : Launch} {e : Env} {R : Room} {s : State} {m : MethodId} {args : Array Value} {below : List Frame} {meth : Method} {c : Code} {H : Heap} {locs : List Loc} {cells slots : Nat} {Q : State → Prop} {cc : ByteArray} {nL index pc : Nat} {own : String} {ls : Array Slot} {rest : List Value} {D : va_G} {K : Nat → ClassId} {a : Nat → Nat} {w n lap : Nat} {op mu ba la en : Nat → Nat} {pr : Nat → Option Nat} {sc : MSc} (S : CallFix p m c cc nL s args lw_tb own) (hI : PI D K (mW K a w n lap op mu ba la en pr sc) s H) (hG : GOK w n lap op mu ba la en pr) (h0 : n = 0) (hlink : Cond.methodLink own index yX8_take ∈ lw_tb) (hR : RO 0 R cells slots) (hsz : ls.size = nL) (hW : (rest.map fun v => v.category).sum ≤ 8) (hdg : decode cc pc = .ok (.invokevirtual index, 3)) (kk : W p l e R s m args below meth c H locs cells slots Q (F0 m (pc + 3) ls (.int ((-3)) :: rest))) : W p l e R s m args below meth c H locs cells slots Q (F0 m pc ls (.ref (a 0) :: rest)) :=
  kV (As := []) (b := a 0) S (mX8_take_a l hG h0) hlink tw_666 tw_667 tw_50 tw_668 (by show _ ∧ _ ∧ _ = some 0; decide +kernel) (by decide) hR blP (piU hI) (va_recv hI.2 hI.1 (ci := 8) (q0 := 0) rfl rfl) hsz rfl hW hdg kk

set_option maxHeartbeats 4000000 in
set_option maxRecDepth 100000 in
theorem mX8_take_b (l : Launch) {D : va_G} {K : Nat → ClassId} {a : Nat → Nat} {w n lap : Nat} {op mu ba la en : Nat → Nat} {pr : Nat → Option Nat} {sc : MSc} (hDis : Dis a 13) (hG : GOK w n lap op mu ba la en pr) (h0 : 1 ≤ n) : Met l yX8_take (TWd yX8_take cX8_take 1 (some .int)) (rmk 0) (va_Pc [.ref (a 0)] (fun U => PI D K (mW K a w n lap op mu ba la en pr sc) U U.heap)) (QX D K (fun u : Unit => some (.int (nI (n - 1)))) (fun u => (mW K a w (n - 1) lap op mu ba la en pr sc)) (fun u => True) (adA a 13)) 0 0 (adA a 13) := by
  refine mt_of (by decide +kernel) (Nat.le_of_ble_eq_true rfl) ?_
  intro p e s m below meth c S hr hlk hI ls hl
  have S : CallFix p m c cX8_take 1 s ([.ref (a 0)] : List Value).toArray lw_tb RX8 := S
  have hl : lv_has ls 1 [(0, .ref (a 0))] := hl
  have hS : va_S (adA a 13) s.heap s.heap [] := va_S.rf
  obtain ⟨gw1, gw2, gn, gl1, gl2, gop, gmu, gba, gla, gen, gpr, gop2, gmu2, gba2, gla2, gme, gbe, gle, gee⟩ := id hG
  refine lv_aload_n S.1 S.2.1 dX8_take_0 rfl (lv_at hl 0 rfl) ?_
  refine g8 S hI 0 rfl 1 (by decide) tw_608 rfl dX8_take_1 ?_
  refine ly_ifne (tgt := 10) S (nI_z2 (by omega)) (nI_z1 (by omega)) dX8_take_4 (by decide) (fun h1 => ?_) (fun h1 => ?_)
  · skip
    refine lv_aload_n S.1 S.2.1 dX8_take_10 rfl (lv_at hl 0 rfl) ?_
    refine lv_dup S.1 S.2.1 dX8_take_11 rfl ?_
    refine g8 S hI 0 rfl 1 (by decide) tw_608 rfl dX8_take_12 ?_
    refine lv_iconst (v := nI 1) S.1 S.2.1 dX8_take_15 (by decide) ?_
    refine lv_isub S.1 S.2.1 dX8_take_16 ?_
    refine ly_top (z := nI (n - 1)) (pk_sub (by omega)) ?_
    refine p8 (ws' := (mW K a w (n - 1) lap op mu ba la en pr sc)) S hI (mD hDis) hS 0 rfl 1 (by decide) tw_608 rfl rfl rfl rfl (Nat.le_of_ble_eq_true rfl) rfl dX8_take_17 (fun H locs hI hS => ?_)
    refine lv_aload_n S.1 S.2.1 dX8_take_20 rfl (lv_at hl 0 rfl) ?_
    refine g8 S hI 0 rfl 1 (by decide) tw_608 rfl dX8_take_21 ?_
    exact rw_i S hr hlk () rfl trivial hI hS dX8_take_24
  · skip
    exact absurd h1 (by omega)
theorem kX8_take_b {p : Program} {l : Launch} {e : Env} {R : Room} {s : State} {m : MethodId} {args : Array Value} {below : List Frame} {meth : Method} {c : Code} {H H0 : Heap} {locs : List Loc} {cells slots : Nat} {Q : State → Prop} {cc : ByteArray} {nL index pc : Nat} {own : String} {ls : Array Slot} {rest : List Value} {D : va_G} {K : Nat → ClassId} {a : Nat → Nat} {w n lap : Nat} {op mu ba la en : Nat → Nat} {pr : Nat → Option Nat} {sc : MSc} (S : CallFix p m c cc nL s args lw_tb own) (hI : PI D K (mW K a w n lap op mu ba la en pr sc) s H) (hS : va_S (adA a 13) H0 H locs) (hDis : Dis a 13) (hG : GOK w n lap op mu ba la en pr) (h0 : 1 ≤ n) (hlink : Cond.methodLink own index yX8_take ∈ lw_tb) (hR : RO 0 R cells slots) (hsz : ls.size = nL) (hW : (rest.map fun v => v.category).sum ≤ 8) (hdg : decode cc pc = .ok (.invokevirtual index, 3)) (kk : ∀ (u : Unit) (H1 : Heap) (locs1 : List Loc), (True) → PI D K (mW K a w (n - 1) lap op mu ba la en pr sc) s H1 → va_S (adA a 13) H0 H1 locs1 → H.size ≤ H1.size → (∀ q : Nat, q < H.size → ¬ (adA a 13) q → H1[q]? = H[q]?) → W p l e R s m args below meth c H1 locs1 cells slots Q (F0 m (pc + 3) ls ((.int (nI (n - 1))) :: rest))) : W p l e R s m args below meth c H locs cells slots Q (F0 m pc ls (.ref (a 0) :: rest)) :=
  kVX (As := []) (b := a 0) S (mX8_take_b l hDis hG h0) hlink tw_666 tw_667 tw_50 tw_668 (by show _ ∧ _ ∧ _ = some 0; decide +kernel) (by decide) hR blP (piU hI) (va_recv hI.2 hI.1 (ci := 8) (q0 := 0) rfl rfl) hS (fun _ h => h) hsz rfl hW hdg kk

set_option maxHeartbeats 4000000 in
set_option maxRecDepth 100000 in
theorem mX8_open_a (l : Launch) {D : va_G} {K : Nat → ClassId} {a : Nat → Nat} {w n lap : Nat} {op mu ba la en : Nat → Nat} {pr : Nat → Option Nat} {sc : MSc} {v : Int32} {z : Int32} (hG : GOK w n lap op mu ba la en pr) (hv : wiI v 0 (nI n - 1) = false) : Met l yX8_open (TWd yX8_open cX8_open 4 (some .int)) (rmk 2) (va_Pc [.ref (a 0), .int v, .int z] (fun U => PI D K (mW K a w n lap op mu ba la en pr sc) U U.heap)) (QcRead ((-1))) 0 0 (fun _ => False) := by
  refine mt_of (by decide +kernel) (Nat.le_of_ble_eq_true rfl) ?_
  intro p e s m below meth c S hr hlk hI ls hl
  have S : CallFix p m c cX8_open 4 s ([.ref (a 0), .int v, .int z] : List Value).toArray lw_tb RX8 := S
  have hl : lv_has ls 4 [(0, .ref (a 0)), (1, .int v), (2, .int z)] := hl
  obtain ⟨gw1, gw2, gn, gl1, gl2, gop, gmu, gba, gla, gen, gpr, gop2, gmu2, gba2, gla2, gme, gbe, gle, gee⟩ := id hG
  refine lv_aload_n S.1 S.2.1 dX8_open_0 rfl (lv_at hl 0 rfl) ?_
  refine lv_iload_n S.1 S.2.1 dX8_open_1 rfl (lv_at hl 1 rfl) ?_
  refine kX8_isCourse S hI hG tw_673 (rok (by decide)) hl.1 (Nat.le_of_ble_eq_true rfl) dX8_open_2 ?_
  refine ly_ifne (tgt := 10) S bI_e2 bI_e1 dX8_open_5 (by decide) (fun h1 => ?_) (fun h1 => ?_)
  · skip
    exact absurd h1 (by rw [hv]; decide)
  · skip
    refine lv_iconst (v := (-1)) S.1 S.2.1 dX8_open_8 (by decide) ?_
    exact rt_i S hr hlk rfl dX8_open_9
theorem kX8_open_a {p : Program} {l : Launch} {e : Env} {R : Room} {s : State} {m : MethodId} {args : Array Value} {below : List Frame} {meth : Method} {c : Code} {H : Heap} {locs : List Loc} {cells slots : Nat} {Q : State → Prop} {cc : ByteArray} {nL index pc : Nat} {own : String} {ls : Array Slot} {rest : List Value} {D : va_G} {K : Nat → ClassId} {a : Nat → Nat} {w n lap : Nat} {op mu ba la en : Nat → Nat} {pr : Nat → Option Nat} {sc : MSc} {v : Int32} {z : Int32} (S : CallFix p m c cc nL s args lw_tb own) (hI : PI D K (mW K a w n lap op mu ba la en pr sc) s H) (hG : GOK w n lap op mu ba la en pr) (hv : wiI v 0 (nI n - 1) = false) (hlink : Cond.methodLink own index yX8_open ∈ lw_tb) (hR : RO 2 R cells slots) (hsz : ls.size = nL) (hW : (rest.map fun v => v.category).sum ≤ 8) (hdg : decode cc pc = .ok (.invokevirtual index, 3)) (kk : W p l e R s m args below meth c H locs cells slots Q (F0 m (pc + 3) ls (.int ((-1)) :: rest))) : W p l e R s m args below meth c H locs cells slots Q (F0 m pc ls (.int z :: .int v :: .ref (a 0) :: rest)) :=
  kV (As := [.int v, .int z]) (b := a 0) S (mX8_open_a l hG hv) hlink tw_670 tw_671 tw_50 tw_672 (by show _ ∧ _ ∧ _ = some 2; decide +kernel) (by decide) hR blP (piU hI) (va_recv hI.2 hI.1 (ci := 8) (q0 := 0) rfl rfl) hsz rfl hW hdg kk

set_option maxHeartbeats 4000000 in
set_option maxRecDepth 100000 in
theorem mX8_open_b (l : Launch) {D : va_G} {K : Nat → ClassId} {a : Nat → Nat} {w n lap : Nat} {op mu ba la en : Nat → Nat} {pr : Nat → Option Nat} {sc : MSc} {ci : Nat} {z : Int32} (hG : GOK w n lap op mu ba la en pr) (hc : ci < n) (hz : wiI z (nI 0) (nI (2 ^ w - 1)) = false) : Met l yX8_open (TWd yX8_open cX8_open 4 (some .int)) (rmk 2) (va_Pc [.ref (a 0), .int (nI ci), .int z] (fun U => PI D K (mW K a w n lap op mu ba la en pr sc) U U.heap)) (QcRead ((-2))) 0 0 (fun _ => False) := by
  refine mt_of (by decide +kernel) (Nat.le_of_ble_eq_true rfl) ?_
  intro p e s m below meth c S hr hlk hI ls hl
  have S : CallFix p m c cX8_open 4 s ([.ref (a 0), .int (nI ci), .int z] : List Value).toArray lw_tb RX8 := S
  have hl : lv_has ls 4 [(0, .ref (a 0)), (1, .int (nI ci)), (2, .int z)] := hl
  obtain ⟨gw1, gw2, gn, gl1, gl2, gop, gmu, gba, gla, gen, gpr, gop2, gmu2, gba2, gla2, gme, gbe, gle, gee⟩ := id hG
  have sw : 1 <<< w = 2 ^ w := Nat.one_shiftLeft w
  have pw : 2 ^ w ≤ 2 ^ 10 := Nat.pow_le_pow_right (by decide) gw2
  have pw3 : 2 ^ 2 ≤ 2 ^ w := Nat.pow_le_pow_right (by decide) gw1
  have pw0 : 2 ^ w ≤ 1024 := pw
  have pw4 : 4 ≤ 2 ^ w := pw3
  refine lv_aload_n S.1 S.2.1 dX8_open_0 rfl (lv_at hl 0 rfl) ?_
  refine lv_iload_n S.1 S.2.1 dX8_open_1 rfl (lv_at hl 1 rfl) ?_
  refine kX8_isCourse S hI hG tw_673 (rok (by decide)) hl.1 (Nat.le_of_ble_eq_true rfl) dX8_open_2 ?_
  refine ly_ifne (tgt := 10) S bI_e2 bI_e1 dX8_open_5 (by decide) (fun h1 => ?_) (fun h1 => ?_)
  · skip
    refine lv_iload_n S.1 S.2.1 dX8_open_10 rfl (lv_at hl 2 rfl) ?_
    refine lv_iconst (v := nI 0) S.1 S.2.1 dX8_open_11 (by decide) ?_
    refine lv_iconst (v := nI 1) S.1 S.2.1 dX8_open_12 (by decide) ?_
    refine lv_aload_n S.1 S.2.1 dX8_open_13 rfl (lv_at hl 0 rfl) ?_
    refine g8 S hI 0 rfl 0 (by decide) tw_607 rfl dX8_open_14 ?_
    refine lv_ishl S.1 S.2.1 dX8_open_17 ?_
    refine ly_top (z := nI (1 <<< w)) (nI_shl (by omega) (by rw [sw]; omega)) ?_
    refine ly_top (z := (nI (2 ^ w))) (by rw [sw]) ?_
    refine lv_iconst (v := nI 1) S.1 S.2.1 dX8_open_18 (by decide) ?_
    refine lv_isub S.1 S.2.1 dX8_open_19 ?_
    refine ly_top (z := nI ((2 ^ w) - 1)) (pk_sub (by omega)) ?_
    refine kX8_within S  tw_658 (rok (by decide)) hl.1 (Nat.le_of_ble_eq_true rfl) dX8_open_20 ?_
    refine ly_ifne (tgt := 29) S bI_e2 bI_e1 dX8_open_23 (by decide) (fun h2 => ?_) (fun h2 => ?_)
    · skip
      exact absurd h2 (by rw [hz]; decide)
    · skip
      refine lv_bipush (v := (-2)) S.1 S.2.1 dX8_open_26 (by decide) ?_
      exact rt_i S hr hlk rfl dX8_open_28
  · skip
    exact absurd h1 (by rw [wiC (by omega) (by omega)]; decide)
theorem kX8_open_b {p : Program} {l : Launch} {e : Env} {R : Room} {s : State} {m : MethodId} {args : Array Value} {below : List Frame} {meth : Method} {c : Code} {H : Heap} {locs : List Loc} {cells slots : Nat} {Q : State → Prop} {cc : ByteArray} {nL index pc : Nat} {own : String} {ls : Array Slot} {rest : List Value} {D : va_G} {K : Nat → ClassId} {a : Nat → Nat} {w n lap : Nat} {op mu ba la en : Nat → Nat} {pr : Nat → Option Nat} {sc : MSc} {ci : Nat} {z : Int32} (S : CallFix p m c cc nL s args lw_tb own) (hI : PI D K (mW K a w n lap op mu ba la en pr sc) s H) (hG : GOK w n lap op mu ba la en pr) (hc : ci < n) (hz : wiI z (nI 0) (nI (2 ^ w - 1)) = false) (hlink : Cond.methodLink own index yX8_open ∈ lw_tb) (hR : RO 2 R cells slots) (hsz : ls.size = nL) (hW : (rest.map fun v => v.category).sum ≤ 8) (hdg : decode cc pc = .ok (.invokevirtual index, 3)) (kk : W p l e R s m args below meth c H locs cells slots Q (F0 m (pc + 3) ls (.int ((-2)) :: rest))) : W p l e R s m args below meth c H locs cells slots Q (F0 m pc ls (.int z :: .int (nI ci) :: .ref (a 0) :: rest)) :=
  kV (As := [.int (nI ci), .int z]) (b := a 0) S (mX8_open_b l hG hc hz) hlink tw_670 tw_671 tw_50 tw_672 (by show _ ∧ _ ∧ _ = some 2; decide +kernel) (by decide) hR blP (piU hI) (va_recv hI.2 hI.1 (ci := 8) (q0 := 0) rfl rfl) hsz rfl hW hdg kk

set_option maxHeartbeats 4000000 in
set_option maxRecDepth 100000 in
theorem mX8_open_c (l : Launch) {D : va_G} {K : Nat → ClassId} {a : Nat → Nat} {w n lap : Nat} {op mu ba la en : Nat → Nat} {pr : Nat → Option Nat} {sc : MSc} {ci : Nat} {k : Nat} (hDis : Dis a 13) (hG : GOK w n lap op mu ba la en pr) (hc : ci < n) (hk : k < 2 ^ w) : Met l yX8_open (TWd yX8_open cX8_open 4 (some .int)) (rmk 2) (va_Pc [.ref (a 0), .int (nI ci), .int (nI k)] (fun U => PI D K (mW K a w n lap op mu ba la en pr sc) U U.heap)) (QX D K (fun u : Unit => some (.int (nI (op ci)))) (fun u => (mW K a w n lap (va_up op ci k) mu ba la en pr sc)) (fun u => True) (adA a 13)) 0 0 (adA a 13) := by
  refine mt_of (by decide +kernel) (Nat.le_of_ble_eq_true rfl) ?_
  intro p e s m below meth c S hr hlk hI ls hl
  have S : CallFix p m c cX8_open 4 s ([.ref (a 0), .int (nI ci), .int (nI k)] : List Value).toArray lw_tb RX8 := S
  have hl : lv_has ls 4 [(0, .ref (a 0)), (1, .int (nI ci)), (2, .int (nI k))] := hl
  have hS : va_S (adA a 13) s.heap s.heap [] := va_S.rf
  obtain ⟨gw1, gw2, gn, gl1, gl2, gop, gmu, gba, gla, gen, gpr, gop2, gmu2, gba2, gla2, gme, gbe, gle, gee⟩ := id hG
  have sw : 1 <<< w = 2 ^ w := Nat.one_shiftLeft w
  have pw : 2 ^ w ≤ 2 ^ 10 := Nat.pow_le_pow_right (by decide) gw2
  have pw3 : 2 ^ 2 ≤ 2 ^ w := Nat.pow_le_pow_right (by decide) gw1
  have pw0 : 2 ^ w ≤ 1024 := pw
  have pw4 : 4 ≤ 2 ^ w := pw3
  refine lv_aload_n S.1 S.2.1 dX8_open_0 rfl (lv_at hl 0 rfl) ?_
  refine lv_iload_n S.1 S.2.1 dX8_open_1 rfl (lv_at hl 1 rfl) ?_
  refine kX8_isCourse S hI hG tw_673 (rok (by decide)) hl.1 (Nat.le_of_ble_eq_true rfl) dX8_open_2 ?_
  refine ly_ifne (tgt := 10) S bI_e2 bI_e1 dX8_open_5 (by decide) (fun h1 => ?_) (fun h1 => ?_)
  · skip
    refine lv_iload_n S.1 S.2.1 dX8_open_10 rfl (lv_at hl 2 rfl) ?_
    refine lv_iconst (v := nI 0) S.1 S.2.1 dX8_open_11 (by decide) ?_
    refine lv_iconst (v := nI 1) S.1 S.2.1 dX8_open_12 (by decide) ?_
    refine lv_aload_n S.1 S.2.1 dX8_open_13 rfl (lv_at hl 0 rfl) ?_
    refine g8 S hI 0 rfl 0 (by decide) tw_607 rfl dX8_open_14 ?_
    refine lv_ishl S.1 S.2.1 dX8_open_17 ?_
    refine ly_top (z := nI (1 <<< w)) (nI_shl (by omega) (by rw [sw]; omega)) ?_
    refine ly_top (z := (nI (2 ^ w))) (by rw [sw]) ?_
    refine lv_iconst (v := nI 1) S.1 S.2.1 dX8_open_18 (by decide) ?_
    refine lv_isub S.1 S.2.1 dX8_open_19 ?_
    refine ly_top (z := nI ((2 ^ w) - 1)) (pk_sub (by omega)) ?_
    refine kX8_within S  tw_658 (rok (by decide)) hl.1 (Nat.le_of_ble_eq_true rfl) dX8_open_20 ?_
    refine ly_ifne (tgt := 29) S bI_e2 bI_e1 dX8_open_23 (by decide) (fun h2 => ?_) (fun h2 => ?_)
    · skip
      refine lv_aload_n S.1 S.2.1 dX8_open_29 rfl (lv_at hl 0 rfl) ?_
      refine g8 S hI 0 rfl 2 (by decide) tw_609 rfl dX8_open_30 ?_
      refine lv_iload_n S.1 S.2.1 dX8_open_33 rfl (lv_at hl 1 rfl) ?_
      refine ly_iald (v := (nI (op ci))) S hI 1 rfl (by omega) (by decide) rfl dX8_open_34 ?_
      refine lv_istore_n (lv' := [(3, .int (nI (op ci))), (0, .ref (a 0)), (1, .int (nI ci)), (2, .int (nI k))]) S.1 S.2.1 dX8_open_35 rfl hl (by decide) rfl (fun ls hl => ?_)
      refine lv_aload_n S.1 S.2.1 dX8_open_36 rfl (lv_at hl 1 rfl) ?_
      refine g8 S hI 0 rfl 2 (by decide) tw_609 rfl dX8_open_37 ?_
      refine lv_iload_n S.1 S.2.1 dX8_open_40 rfl (lv_at hl 2 rfl) ?_
      refine lv_iload_n S.1 S.2.1 dX8_open_41 rfl (lv_at hl 3 rfl) ?_
      refine ly_iast (ws' := (mW K a w n lap (va_up op ci k) mu ba la en pr sc)) S hI (mD hDis) hS 1 rfl (by omega) (by decide) ms_1 dX8_open_42 (fun H locs hI hS => ?_)
      refine lv_iload_n S.1 S.2.1 dX8_open_43 rfl (lv_at hl 0 rfl) ?_
      exact rw_i S hr hlk () rfl trivial hI hS dX8_open_44
    · skip
      exact absurd h2 (by rw [wiN (by omega) (by omega) (by omega)]; decide)
  · skip
    exact absurd h1 (by rw [wiC (by omega) (by omega)]; decide)
theorem kX8_open_c {p : Program} {l : Launch} {e : Env} {R : Room} {s : State} {m : MethodId} {args : Array Value} {below : List Frame} {meth : Method} {c : Code} {H H0 : Heap} {locs : List Loc} {cells slots : Nat} {Q : State → Prop} {cc : ByteArray} {nL index pc : Nat} {own : String} {ls : Array Slot} {rest : List Value} {D : va_G} {K : Nat → ClassId} {a : Nat → Nat} {w n lap : Nat} {op mu ba la en : Nat → Nat} {pr : Nat → Option Nat} {sc : MSc} {ci : Nat} {k : Nat} (S : CallFix p m c cc nL s args lw_tb own) (hI : PI D K (mW K a w n lap op mu ba la en pr sc) s H) (hS : va_S (adA a 13) H0 H locs) (hDis : Dis a 13) (hG : GOK w n lap op mu ba la en pr) (hc : ci < n) (hk : k < 2 ^ w) (hlink : Cond.methodLink own index yX8_open ∈ lw_tb) (hR : RO 2 R cells slots) (hsz : ls.size = nL) (hW : (rest.map fun v => v.category).sum ≤ 8) (hdg : decode cc pc = .ok (.invokevirtual index, 3)) (kk : ∀ (u : Unit) (H1 : Heap) (locs1 : List Loc), (True) → PI D K (mW K a w n lap (va_up op ci k) mu ba la en pr sc) s H1 → va_S (adA a 13) H0 H1 locs1 → H.size ≤ H1.size → (∀ q : Nat, q < H.size → ¬ (adA a 13) q → H1[q]? = H[q]?) → W p l e R s m args below meth c H1 locs1 cells slots Q (F0 m (pc + 3) ls ((.int (nI (op ci))) :: rest))) : W p l e R s m args below meth c H locs cells slots Q (F0 m pc ls (.int (nI k) :: .int (nI ci) :: .ref (a 0) :: rest)) :=
  kVX (As := [.int (nI ci), .int (nI k)]) (b := a 0) S (mX8_open_c l hDis hG hc hk) hlink tw_670 tw_671 tw_50 tw_672 (by show _ ∧ _ ∧ _ = some 2; decide +kernel) (by decide) hR blP (piU hI) (va_recv hI.2 hI.1 (ci := 8) (q0 := 0) rfl rfl) hS (fun _ h => h) hsz rfl hW hdg kk

set_option maxHeartbeats 4000000 in
set_option maxRecDepth 100000 in
theorem mX8_must_a (l : Launch) {D : va_G} {K : Nat → ClassId} {a : Nat → Nat} {w n lap : Nat} {op mu ba la en : Nat → Nat} {pr : Nat → Option Nat} {sc : MSc} {v : Int32} {hw : Int32} {z : Int32} (hG : GOK w n lap op mu ba la en pr) (hv : wiI v 0 (nI n - 1) = false) : Met l yX8_must (TWd yX8_must cX8_must 5 (some .int)) (rmk 2) (va_Pc [.ref (a 0), .int v, .int hw, .int z] (fun U => PI D K (mW K a w n lap op mu ba la en pr sc) U U.heap)) (QcRead ((-1))) 0 0 (fun _ => False) := by
  refine mt_of (by decide +kernel) (Nat.le_of_ble_eq_true rfl) ?_
  intro p e s m below meth c S hr hlk hI ls hl
  have S : CallFix p m c cX8_must 5 s ([.ref (a 0), .int v, .int hw, .int z] : List Value).toArray lw_tb RX8 := S
  have hl : lv_has ls 5 [(0, .ref (a 0)), (1, .int v), (2, .int hw), (3, .int z)] := hl
  obtain ⟨gw1, gw2, gn, gl1, gl2, gop, gmu, gba, gla, gen, gpr, gop2, gmu2, gba2, gla2, gme, gbe, gle, gee⟩ := id hG
  refine lv_aload_n S.1 S.2.1 dX8_must_0 rfl (lv_at hl 0 rfl) ?_
  refine lv_iload_n S.1 S.2.1 dX8_must_1 rfl (lv_at hl 1 rfl) ?_
  refine kX8_isCourse S hI hG tw_673 (rok (by decide)) hl.1 (Nat.le_of_ble_eq_true rfl) dX8_must_2 ?_
  refine ly_ifne (tgt := 10) S bI_e2 bI_e1 dX8_must_5 (by decide) (fun h1 => ?_) (fun h1 => ?_)
  · skip
    exact absurd h1 (by rw [hv]; decide)
  · skip
    refine lv_iconst (v := (-1)) S.1 S.2.1 dX8_must_8 (by decide) ?_
    exact rt_i S hr hlk rfl dX8_must_9
theorem kX8_must_a {p : Program} {l : Launch} {e : Env} {R : Room} {s : State} {m : MethodId} {args : Array Value} {below : List Frame} {meth : Method} {c : Code} {H : Heap} {locs : List Loc} {cells slots : Nat} {Q : State → Prop} {cc : ByteArray} {nL index pc : Nat} {own : String} {ls : Array Slot} {rest : List Value} {D : va_G} {K : Nat → ClassId} {a : Nat → Nat} {w n lap : Nat} {op mu ba la en : Nat → Nat} {pr : Nat → Option Nat} {sc : MSc} {v : Int32} {hw : Int32} {z : Int32} (S : CallFix p m c cc nL s args lw_tb own) (hI : PI D K (mW K a w n lap op mu ba la en pr sc) s H) (hG : GOK w n lap op mu ba la en pr) (hv : wiI v 0 (nI n - 1) = false) (hlink : Cond.methodLink own index yX8_must ∈ lw_tb) (hR : RO 2 R cells slots) (hsz : ls.size = nL) (hW : (rest.map fun v => v.category).sum ≤ 8) (hdg : decode cc pc = .ok (.invokevirtual index, 3)) (kk : W p l e R s m args below meth c H locs cells slots Q (F0 m (pc + 3) ls (.int ((-1)) :: rest))) : W p l e R s m args below meth c H locs cells slots Q (F0 m pc ls (.int z :: .int hw :: .int v :: .ref (a 0) :: rest)) :=
  kV (As := [.int v, .int hw, .int z]) (b := a 0) S (mX8_must_a l hG hv) hlink tw_678 tw_679 tw_50 tw_680 (by show _ ∧ _ ∧ _ = some 3; decide +kernel) (by decide) hR blP (piU hI) (va_recv hI.2 hI.1 (ci := 8) (q0 := 0) rfl rfl) hsz rfl hW hdg kk

set_option maxHeartbeats 4000000 in
set_option maxRecDepth 100000 in
theorem mX8_must_b (l : Launch) {D : va_G} {K : Nat → ClassId} {a : Nat → Nat} {w n lap : Nat} {op mu ba la en : Nat → Nat} {pr : Nat → Option Nat} {sc : MSc} {ci : Nat} {hw : Int32} {z : Int32} (hG : GOK w n lap op mu ba la en pr) (hc : ci < n) (hz : (wiI hw (nI 0) (nI 1) && plI w z) = false) : Met l yX8_must (TWd yX8_must cX8_must 5 (some .int)) (rmk 2) (va_Pc [.ref (a 0), .int (nI ci), .int hw, .int z] (fun U => PI D K (mW K a w n lap op mu ba la en pr sc) U U.heap)) (QcRead ((-2))) 0 0 (fun _ => False) := by
  refine mt_of (by decide +kernel) (Nat.le_of_ble_eq_true rfl) ?_
  intro p e s m below meth c S hr hlk hI ls hl
  have S : CallFix p m c cX8_must 5 s ([.ref (a 0), .int (nI ci), .int hw, .int z] : List Value).toArray lw_tb RX8 := S
  have hl : lv_has ls 5 [(0, .ref (a 0)), (1, .int (nI ci)), (2, .int hw), (3, .int z)] := hl
  obtain ⟨gw1, gw2, gn, gl1, gl2, gop, gmu, gba, gla, gen, gpr, gop2, gmu2, gba2, gla2, gme, gbe, gle, gee⟩ := id hG
  refine lv_aload_n S.1 S.2.1 dX8_must_0 rfl (lv_at hl 0 rfl) ?_
  refine lv_iload_n S.1 S.2.1 dX8_must_1 rfl (lv_at hl 1 rfl) ?_
  refine kX8_isCourse S hI hG tw_673 (rok (by decide)) hl.1 (Nat.le_of_ble_eq_true rfl) dX8_must_2 ?_
  refine ly_ifne (tgt := 10) S bI_e2 bI_e1 dX8_must_5 (by decide) (fun h1 => ?_) (fun h1 => ?_)
  · skip
    refine lv_iload_n S.1 S.2.1 dX8_must_10 rfl (lv_at hl 2 rfl) ?_
    refine lv_iconst (v := nI 0) S.1 S.2.1 dX8_must_11 (by decide) ?_
    refine lv_iconst (v := nI 1) S.1 S.2.1 dX8_must_12 (by decide) ?_
    refine kX8_within S  tw_658 (rok (by decide)) hl.1 (Nat.le_of_ble_eq_true rfl) dX8_must_13 ?_
    refine ly_ifeq (tgt := 27) S bI_e1 bI_e2 dX8_must_16 (by decide) (fun h2 => ?_) (fun h2 => ?_)
    · skip
      refine lv_bipush (v := (-2)) S.1 S.2.1 dX8_must_27 (by decide) ?_
      exact rt_i S hr hlk rfl dX8_must_29
    · skip
      refine lv_aload_n S.1 S.2.1 dX8_must_19 rfl (lv_at hl 0 rfl) ?_
      refine lv_iload_n S.1 S.2.1 dX8_must_20 rfl (lv_at hl 3 rfl) ?_
      refine kX8_arePlaces S hI hG tw_681 (rok (by decide)) hl.1 (Nat.le_of_ble_eq_true rfl) dX8_must_21 ?_
      refine ly_ifne (tgt := 30) S bI_e2 bI_e1 dX8_must_24 (by decide) (fun h3 => ?_) (fun h3 => ?_)
      · skip
        exact absurd hz (by rw [h2, h3]; decide)
      · skip
        refine lv_bipush (v := (-2)) S.1 S.2.1 dX8_must_27 (by decide) ?_
        exact rt_i S hr hlk rfl dX8_must_29
  · skip
    exact absurd h1 (by rw [wiC (by omega) (by omega)]; decide)
theorem kX8_must_b {p : Program} {l : Launch} {e : Env} {R : Room} {s : State} {m : MethodId} {args : Array Value} {below : List Frame} {meth : Method} {c : Code} {H : Heap} {locs : List Loc} {cells slots : Nat} {Q : State → Prop} {cc : ByteArray} {nL index pc : Nat} {own : String} {ls : Array Slot} {rest : List Value} {D : va_G} {K : Nat → ClassId} {a : Nat → Nat} {w n lap : Nat} {op mu ba la en : Nat → Nat} {pr : Nat → Option Nat} {sc : MSc} {ci : Nat} {hw : Int32} {z : Int32} (S : CallFix p m c cc nL s args lw_tb own) (hI : PI D K (mW K a w n lap op mu ba la en pr sc) s H) (hG : GOK w n lap op mu ba la en pr) (hc : ci < n) (hz : (wiI hw (nI 0) (nI 1) && plI w z) = false) (hlink : Cond.methodLink own index yX8_must ∈ lw_tb) (hR : RO 2 R cells slots) (hsz : ls.size = nL) (hW : (rest.map fun v => v.category).sum ≤ 8) (hdg : decode cc pc = .ok (.invokevirtual index, 3)) (kk : W p l e R s m args below meth c H locs cells slots Q (F0 m (pc + 3) ls (.int ((-2)) :: rest))) : W p l e R s m args below meth c H locs cells slots Q (F0 m pc ls (.int z :: .int hw :: .int (nI ci) :: .ref (a 0) :: rest)) :=
  kV (As := [.int (nI ci), .int hw, .int z]) (b := a 0) S (mX8_must_b l hG hc hz) hlink tw_678 tw_679 tw_50 tw_680 (by show _ ∧ _ ∧ _ = some 3; decide +kernel) (by decide) hR blP (piU hI) (va_recv hI.2 hI.1 (ci := 8) (q0 := 0) rfl rfl) hsz rfl hW hdg kk

set_option maxHeartbeats 4000000 in
set_option maxRecDepth 100000 in
theorem mX8_must_c1 (l : Launch) {D : va_G} {K : Nat → ClassId} {a : Nat → Nat} {w n lap : Nat} {op mu ba la en : Nat → Nat} {pr : Nat → Option Nat} {sc : MSc} {ci : Nat} {k : Nat} (hDis : Dis a 13) (hG : GOK w n lap op mu ba la en pr) (hc : ci < n) (hk : k < 2 ^ w) (hk2 : k % 2 = 0) : Met l yX8_must (TWd yX8_must cX8_must 5 (some .int)) (rmk 2) (va_Pc [.ref (a 0), .int (nI ci), .int (nI 1), .int (nI k)] (fun U => PI D K (mW K a w n lap op mu ba la en pr sc) U U.heap)) (QX D K (fun u : Unit => some (.int (nI (mu ci)))) (fun u => (mW K a w n lap op (va_up mu ci k) ba la en pr sc)) (fun u => True) (adA a 13)) 0 0 (adA a 13) := by
  refine mt_of (by decide +kernel) (Nat.le_of_ble_eq_true rfl) ?_
  intro p e s m below meth c S hr hlk hI ls hl
  have S : CallFix p m c cX8_must 5 s ([.ref (a 0), .int (nI ci), .int (nI 1), .int (nI k)] : List Value).toArray lw_tb RX8 := S
  have hl : lv_has ls 5 [(0, .ref (a 0)), (1, .int (nI ci)), (2, .int (nI 1)), (3, .int (nI k))] := hl
  have hS : va_S (adA a 13) s.heap s.heap [] := va_S.rf
  obtain ⟨gw1, gw2, gn, gl1, gl2, gop, gmu, gba, gla, gen, gpr, gop2, gmu2, gba2, gla2, gme, gbe, gle, gee⟩ := id hG
  refine lv_aload_n S.1 S.2.1 dX8_must_0 rfl (lv_at hl 0 rfl) ?_
  refine lv_iload_n S.1 S.2.1 dX8_must_1 rfl (lv_at hl 1 rfl) ?_
  refine kX8_isCourse S hI hG tw_673 (rok (by decide)) hl.1 (Nat.le_of_ble_eq_true rfl) dX8_must_2 ?_
  refine ly_ifne (tgt := 10) S bI_e2 bI_e1 dX8_must_5 (by decide) (fun h1 => ?_) (fun h1 => ?_)
  · skip
    refine lv_iload_n S.1 S.2.1 dX8_must_10 rfl (lv_at hl 2 rfl) ?_
    refine lv_iconst (v := nI 0) S.1 S.2.1 dX8_must_11 (by decide) ?_
    refine lv_iconst (v := nI 1) S.1 S.2.1 dX8_must_12 (by decide) ?_
    refine kX8_within S  tw_658 (rok (by decide)) hl.1 (Nat.le_of_ble_eq_true rfl) dX8_must_13 ?_
    refine ly_ifeq (tgt := 27) S bI_e1 bI_e2 dX8_must_16 (by decide) (fun h2 => ?_) (fun h2 => ?_)
    · skip
      exact absurd h2 (by rw [wiN (by omega) (by omega) (by omega)]; decide)
    · skip
      refine lv_aload_n S.1 S.2.1 dX8_must_19 rfl (lv_at hl 0 rfl) ?_
      refine lv_iload_n S.1 S.2.1 dX8_must_20 rfl (lv_at hl 3 rfl) ?_
      refine kX8_arePlaces S hI hG tw_681 (rok (by decide)) hl.1 (Nat.le_of_ble_eq_true rfl) dX8_must_21 ?_
      refine ly_ifne (tgt := 30) S bI_e2 bI_e1 dX8_must_24 (by decide) (fun h3 => ?_) (fun h3 => ?_)
      · skip
        refine lv_iload_n S.1 S.2.1 dX8_must_30 rfl (lv_at hl 2 rfl) ?_
        refine lv_iconst (v := nI 1) S.1 S.2.1 dX8_must_31 (by decide) ?_
        refine ly_cmne (tgt := 44) S (nI_e2 (by omega) (by omega)) (nI_e1 (by omega) (by omega)) dX8_must_32 (by decide) (fun h4 => ?_) (fun h4 => ?_)
        · skip
          exact absurd h4 (by decide)
        · skip
          refine lv_aload_n S.1 S.2.1 dX8_must_35 rfl (lv_at hl 0 rfl) ?_
          refine g8 S hI 0 rfl 3 (by decide) tw_610 rfl dX8_must_36 ?_
          refine lv_iload_n S.1 S.2.1 dX8_must_39 rfl (lv_at hl 1 rfl) ?_
          refine ly_iald (v := (nI (mu ci))) S hI 2 rfl (by omega) (by decide) rfl dX8_must_40 ?_
          refine lv_goto (tgt := 50) S.1 S.2.1 dX8_must_41 (by decide) ?_
          refine lv_istore (lv' := [(4, .int (nI (mu ci))), (0, .ref (a 0)), (1, .int (nI ci)), (2, .int (nI 1)), (3, .int (nI k))]) S.1 S.2.1 dX8_must_50 hl (by decide) rfl (fun ls hl => ?_)
          refine lv_aload_n S.1 S.2.1 dX8_must_52 rfl (lv_at hl 1 rfl) ?_
          refine g8 S hI 0 rfl 3 (by decide) tw_610 rfl dX8_must_53 ?_
          refine lv_iload_n S.1 S.2.1 dX8_must_56 rfl (lv_at hl 2 rfl) ?_
          refine lv_iload_n S.1 S.2.1 dX8_must_57 rfl (lv_at hl 3 rfl) ?_
          refine lv_iconst (v := nI 1) S.1 S.2.1 dX8_must_58 (by decide) ?_
          refine ly_cmne (tgt := 66) S (nI_e2 (by omega) (by omega)) (nI_e1 (by omega) (by omega)) dX8_must_59 (by decide) (fun h5 => ?_) (fun h5 => ?_)
          · skip
            exact absurd h5 (by decide)
          · skip
            refine lv_iload_n S.1 S.2.1 dX8_must_62 rfl (lv_at hl 4 rfl) ?_
            refine lv_goto (tgt := 72) S.1 S.2.1 dX8_must_63 (by decide) ?_
            refine ly_iast (ws' := (mW K a w n lap op (va_up mu ci k) ba la en pr sc)) S hI (mD hDis) hS 2 rfl (by omega) (by decide) ms_2 dX8_must_72 (fun H locs hI hS => ?_)
            refine lv_aload_n S.1 S.2.1 dX8_must_73 rfl (lv_at hl 1 rfl) ?_
            refine g8 S hI 0 rfl 4 (by decide) tw_611 rfl dX8_must_74 ?_
            refine lv_iload_n S.1 S.2.1 dX8_must_77 rfl (lv_at hl 2 rfl) ?_
            refine lv_iload_n S.1 S.2.1 dX8_must_78 rfl (lv_at hl 3 rfl) ?_
            refine lv_iconst (v := nI 1) S.1 S.2.1 dX8_must_79 (by decide) ?_
            refine ly_cmne (tgt := 92) S (nI_e2 (by omega) (by omega)) (nI_e1 (by omega) (by omega)) dX8_must_80 (by decide) (fun h6 => ?_) (fun h6 => ?_)
            · skip
              exact absurd h6 (by decide)
            · skip
              refine lv_aload_n S.1 S.2.1 dX8_must_83 rfl (lv_at hl 1 rfl) ?_
              refine g8 S hI 0 rfl 4 (by decide) tw_611 rfl dX8_must_84 ?_
              refine lv_iload_n S.1 S.2.1 dX8_must_87 rfl (lv_at hl 2 rfl) ?_
              refine ly_iald (v := (nI (ba ci))) S hI 3 rfl (by omega) (by decide) rfl dX8_must_88 ?_
              refine lv_goto (tgt := 93) S.1 S.2.1 dX8_must_89 (by decide) ?_
              refine ly_iast (ws' := (mW K a w n lap op (va_up mu ci k) (va_up ba ci (ba ci)) la en pr sc)) S hI (mD hDis) hS 3 rfl (by omega) (by decide) ms_3 dX8_must_93 (fun H locs hI hS => ?_)
              rw [va_up_id ba ci] at hI
              refine lv_iload S.1 S.2.1 dX8_must_94 (lv_at hl 0 rfl) ?_
              exact rw_i S hr hlk () rfl trivial hI hS dX8_must_96
      · skip
        exact absurd h3 (by rw [plI_n hk hk2 (by omega)]; decide)
  · skip
    exact absurd h1 (by rw [wiC (by omega) (by omega)]; decide)
theorem kX8_must_c1 {p : Program} {l : Launch} {e : Env} {R : Room} {s : State} {m : MethodId} {args : Array Value} {below : List Frame} {meth : Method} {c : Code} {H H0 : Heap} {locs : List Loc} {cells slots : Nat} {Q : State → Prop} {cc : ByteArray} {nL index pc : Nat} {own : String} {ls : Array Slot} {rest : List Value} {D : va_G} {K : Nat → ClassId} {a : Nat → Nat} {w n lap : Nat} {op mu ba la en : Nat → Nat} {pr : Nat → Option Nat} {sc : MSc} {ci : Nat} {k : Nat} (S : CallFix p m c cc nL s args lw_tb own) (hI : PI D K (mW K a w n lap op mu ba la en pr sc) s H) (hS : va_S (adA a 13) H0 H locs) (hDis : Dis a 13) (hG : GOK w n lap op mu ba la en pr) (hc : ci < n) (hk : k < 2 ^ w) (hk2 : k % 2 = 0) (hlink : Cond.methodLink own index yX8_must ∈ lw_tb) (hR : RO 2 R cells slots) (hsz : ls.size = nL) (hW : (rest.map fun v => v.category).sum ≤ 8) (hdg : decode cc pc = .ok (.invokevirtual index, 3)) (kk : ∀ (u : Unit) (H1 : Heap) (locs1 : List Loc), (True) → PI D K (mW K a w n lap op (va_up mu ci k) ba la en pr sc) s H1 → va_S (adA a 13) H0 H1 locs1 → H.size ≤ H1.size → (∀ q : Nat, q < H.size → ¬ (adA a 13) q → H1[q]? = H[q]?) → W p l e R s m args below meth c H1 locs1 cells slots Q (F0 m (pc + 3) ls ((.int (nI (mu ci))) :: rest))) : W p l e R s m args below meth c H locs cells slots Q (F0 m pc ls (.int (nI k) :: .int (nI 1) :: .int (nI ci) :: .ref (a 0) :: rest)) :=
  kVX (As := [.int (nI ci), .int (nI 1), .int (nI k)]) (b := a 0) S (mX8_must_c1 l hDis hG hc hk hk2) hlink tw_678 tw_679 tw_50 tw_680 (by show _ ∧ _ ∧ _ = some 3; decide +kernel) (by decide) hR blP (piU hI) (va_recv hI.2 hI.1 (ci := 8) (q0 := 0) rfl rfl) hS (fun _ h => h) hsz rfl hW hdg kk

set_option maxHeartbeats 4000000 in
set_option maxRecDepth 100000 in
theorem mX8_must_c0 (l : Launch) {D : va_G} {K : Nat → ClassId} {a : Nat → Nat} {w n lap : Nat} {op mu ba la en : Nat → Nat} {pr : Nat → Option Nat} {sc : MSc} {ci : Nat} {k : Nat} (hDis : Dis a 13) (hG : GOK w n lap op mu ba la en pr) (hc : ci < n) (hk : k < 2 ^ w) (hk2 : k % 2 = 0) : Met l yX8_must (TWd yX8_must cX8_must 5 (some .int)) (rmk 2) (va_Pc [.ref (a 0), .int (nI ci), .int (nI 0), .int (nI k)] (fun U => PI D K (mW K a w n lap op mu ba la en pr sc) U U.heap)) (QX D K (fun u : Unit => some (.int (nI (ba ci)))) (fun u => (mW K a w n lap op mu (va_up ba ci k) la en pr sc)) (fun u => True) (adA a 13)) 0 0 (adA a 13) := by
  refine mt_of (by decide +kernel) (Nat.le_of_ble_eq_true rfl) ?_
  intro p e s m below meth c S hr hlk hI ls hl
  have S : CallFix p m c cX8_must 5 s ([.ref (a 0), .int (nI ci), .int (nI 0), .int (nI k)] : List Value).toArray lw_tb RX8 := S
  have hl : lv_has ls 5 [(0, .ref (a 0)), (1, .int (nI ci)), (2, .int (nI 0)), (3, .int (nI k))] := hl
  have hS : va_S (adA a 13) s.heap s.heap [] := va_S.rf
  obtain ⟨gw1, gw2, gn, gl1, gl2, gop, gmu, gba, gla, gen, gpr, gop2, gmu2, gba2, gla2, gme, gbe, gle, gee⟩ := id hG
  refine lv_aload_n S.1 S.2.1 dX8_must_0 rfl (lv_at hl 0 rfl) ?_
  refine lv_iload_n S.1 S.2.1 dX8_must_1 rfl (lv_at hl 1 rfl) ?_
  refine kX8_isCourse S hI hG tw_673 (rok (by decide)) hl.1 (Nat.le_of_ble_eq_true rfl) dX8_must_2 ?_
  refine ly_ifne (tgt := 10) S bI_e2 bI_e1 dX8_must_5 (by decide) (fun h1 => ?_) (fun h1 => ?_)
  · skip
    refine lv_iload_n S.1 S.2.1 dX8_must_10 rfl (lv_at hl 2 rfl) ?_
    refine lv_iconst (v := nI 0) S.1 S.2.1 dX8_must_11 (by decide) ?_
    refine lv_iconst (v := nI 1) S.1 S.2.1 dX8_must_12 (by decide) ?_
    refine kX8_within S  tw_658 (rok (by decide)) hl.1 (Nat.le_of_ble_eq_true rfl) dX8_must_13 ?_
    refine ly_ifeq (tgt := 27) S bI_e1 bI_e2 dX8_must_16 (by decide) (fun h2 => ?_) (fun h2 => ?_)
    · skip
      exact absurd h2 (by rw [wiN (by omega) (by omega) (by omega)]; decide)
    · skip
      refine lv_aload_n S.1 S.2.1 dX8_must_19 rfl (lv_at hl 0 rfl) ?_
      refine lv_iload_n S.1 S.2.1 dX8_must_20 rfl (lv_at hl 3 rfl) ?_
      refine kX8_arePlaces S hI hG tw_681 (rok (by decide)) hl.1 (Nat.le_of_ble_eq_true rfl) dX8_must_21 ?_
      refine ly_ifne (tgt := 30) S bI_e2 bI_e1 dX8_must_24 (by decide) (fun h3 => ?_) (fun h3 => ?_)
      · skip
        refine lv_iload_n S.1 S.2.1 dX8_must_30 rfl (lv_at hl 2 rfl) ?_
        refine lv_iconst (v := nI 1) S.1 S.2.1 dX8_must_31 (by decide) ?_
        refine ly_cmne (tgt := 44) S (nI_e2 (by omega) (by omega)) (nI_e1 (by omega) (by omega)) dX8_must_32 (by decide) (fun h4 => ?_) (fun h4 => ?_)
        · skip
          refine lv_aload_n S.1 S.2.1 dX8_must_44 rfl (lv_at hl 0 rfl) ?_
          refine g8 S hI 0 rfl 4 (by decide) tw_611 rfl dX8_must_45 ?_
          refine lv_iload_n S.1 S.2.1 dX8_must_48 rfl (lv_at hl 1 rfl) ?_
          refine ly_iald (v := (nI (ba ci))) S hI 3 rfl (by omega) (by decide) rfl dX8_must_49 ?_
          refine lv_istore (lv' := [(4, .int (nI (ba ci))), (0, .ref (a 0)), (1, .int (nI ci)), (2, .int (nI 0)), (3, .int (nI k))]) S.1 S.2.1 dX8_must_50 hl (by decide) rfl (fun ls hl => ?_)
          refine lv_aload_n S.1 S.2.1 dX8_must_52 rfl (lv_at hl 1 rfl) ?_
          refine g8 S hI 0 rfl 3 (by decide) tw_610 rfl dX8_must_53 ?_
          refine lv_iload_n S.1 S.2.1 dX8_must_56 rfl (lv_at hl 2 rfl) ?_
          refine lv_iload_n S.1 S.2.1 dX8_must_57 rfl (lv_at hl 3 rfl) ?_
          refine lv_iconst (v := nI 1) S.1 S.2.1 dX8_must_58 (by decide) ?_
          refine ly_cmne (tgt := 66) S (nI_e2 (by omega) (by omega)) (nI_e1 (by omega) (by omega)) dX8_must_59 (by decide) (fun h5 => ?_) (fun h5 => ?_)
          · skip
            refine lv_aload_n S.1 S.2.1 dX8_must_66 rfl (lv_at hl 1 rfl) ?_
            refine g8 S hI 0 rfl 3 (by decide) tw_610 rfl dX8_must_67 ?_
            refine lv_iload_n S.1 S.2.1 dX8_must_70 rfl (lv_at hl 2 rfl) ?_
            refine ly_iald (v := (nI (mu ci))) S hI 2 rfl (by omega) (by decide) rfl dX8_must_71 ?_
            refine ly_iast (ws' := (mW K a w n lap op (va_up mu ci (mu ci)) ba la en pr sc)) S hI (mD hDis) hS 2 rfl (by omega) (by decide) ms_2 dX8_must_72 (fun H locs hI hS => ?_)
            refine lv_aload_n S.1 S.2.1 dX8_must_73 rfl (lv_at hl 1 rfl) ?_
            refine g8 S hI 0 rfl 4 (by decide) tw_611 rfl dX8_must_74 ?_
            refine lv_iload_n S.1 S.2.1 dX8_must_77 rfl (lv_at hl 2 rfl) ?_
            refine lv_iload_n S.1 S.2.1 dX8_must_78 rfl (lv_at hl 3 rfl) ?_
            refine lv_iconst (v := nI 1) S.1 S.2.1 dX8_must_79 (by decide) ?_
            refine ly_cmne (tgt := 92) S (nI_e2 (by omega) (by omega)) (nI_e1 (by omega) (by omega)) dX8_must_80 (by decide) (fun h6 => ?_) (fun h6 => ?_)
            · skip
              refine lv_iload_n S.1 S.2.1 dX8_must_92 rfl (lv_at hl 4 rfl) ?_
              refine ly_iast (ws' := (mW K a w n lap op (va_up mu ci (mu ci)) (va_up ba ci k) la en pr sc)) S hI (mD hDis) hS 3 rfl (by omega) (by decide) ms_3 dX8_must_93 (fun H locs hI hS => ?_)
              rw [va_up_id mu ci] at hI
              refine lv_iload S.1 S.2.1 dX8_must_94 (lv_at hl 0 rfl) ?_
              exact rw_i S hr hlk () rfl trivial hI hS dX8_must_96
            · skip
              exact absurd h6 (by decide)
          · skip
            exact absurd h5 (by decide)
        · skip
          exact absurd h4 (by decide)
      · skip
        exact absurd h3 (by rw [plI_n hk hk2 (by omega)]; decide)
  · skip
    exact absurd h1 (by rw [wiC (by omega) (by omega)]; decide)
theorem kX8_must_c0 {p : Program} {l : Launch} {e : Env} {R : Room} {s : State} {m : MethodId} {args : Array Value} {below : List Frame} {meth : Method} {c : Code} {H H0 : Heap} {locs : List Loc} {cells slots : Nat} {Q : State → Prop} {cc : ByteArray} {nL index pc : Nat} {own : String} {ls : Array Slot} {rest : List Value} {D : va_G} {K : Nat → ClassId} {a : Nat → Nat} {w n lap : Nat} {op mu ba la en : Nat → Nat} {pr : Nat → Option Nat} {sc : MSc} {ci : Nat} {k : Nat} (S : CallFix p m c cc nL s args lw_tb own) (hI : PI D K (mW K a w n lap op mu ba la en pr sc) s H) (hS : va_S (adA a 13) H0 H locs) (hDis : Dis a 13) (hG : GOK w n lap op mu ba la en pr) (hc : ci < n) (hk : k < 2 ^ w) (hk2 : k % 2 = 0) (hlink : Cond.methodLink own index yX8_must ∈ lw_tb) (hR : RO 2 R cells slots) (hsz : ls.size = nL) (hW : (rest.map fun v => v.category).sum ≤ 8) (hdg : decode cc pc = .ok (.invokevirtual index, 3)) (kk : ∀ (u : Unit) (H1 : Heap) (locs1 : List Loc), (True) → PI D K (mW K a w n lap op mu (va_up ba ci k) la en pr sc) s H1 → va_S (adA a 13) H0 H1 locs1 → H.size ≤ H1.size → (∀ q : Nat, q < H.size → ¬ (adA a 13) q → H1[q]? = H[q]?) → W p l e R s m args below meth c H1 locs1 cells slots Q (F0 m (pc + 3) ls ((.int (nI (ba ci))) :: rest))) : W p l e R s m args below meth c H locs cells slots Q (F0 m pc ls (.int (nI k) :: .int (nI 0) :: .int (nI ci) :: .ref (a 0) :: rest)) :=
  kVX (As := [.int (nI ci), .int (nI 0), .int (nI k)]) (b := a 0) S (mX8_must_c0 l hDis hG hc hk hk2) hlink tw_678 tw_679 tw_50 tw_680 (by show _ ∧ _ ∧ _ = some 3; decide +kernel) (by decide) hR blP (piU hI) (va_recv hI.2 hI.1 (ci := 8) (q0 := 0) rfl rfl) hS (fun _ h => h) hsz rfl hW hdg kk

set_option maxHeartbeats 4000000 in
set_option maxRecDepth 100000 in
theorem mX8_price_a (l : Launch) {D : va_G} {K : Nat → ClassId} {a : Nat → Nat} {w n lap : Nat} {op mu ba la en : Nat → Nat} {pr : Nat → Option Nat} {sc : MSc} {le : Int32} {v : Int32} (hG : GOK w n lap op mu ba la en pr) (hv : (wiI le (nI 1) (nI 6) && (decide (v = -9) || wiI v (nI 0) (nI 99))) = false) : Met l yX8_price (TWd yX8_price cX8_price 4 (some .int)) (rmk 1) (va_Pc [.ref (a 0), .int le, .int v] (fun U => PI D K (mW K a w n lap op mu ba la en pr sc) U U.heap)) (QcRead ((-2))) 0 0 (fun _ => False) := by
  refine mt_of (by decide +kernel) (Nat.le_of_ble_eq_true rfl) ?_
  intro p e s m below meth c S hr hlk hI ls hl
  have S : CallFix p m c cX8_price 4 s ([.ref (a 0), .int le, .int v] : List Value).toArray lw_tb RX8 := S
  have hl : lv_has ls 4 [(0, .ref (a 0)), (1, .int le), (2, .int v)] := hl
  obtain ⟨gw1, gw2, gn, gl1, gl2, gop, gmu, gba, gla, gen, gpr, gop2, gmu2, gba2, gla2, gme, gbe, gle, gee⟩ := id hG
  refine lv_iload_n S.1 S.2.1 dX8_price_0 rfl (lv_at hl 1 rfl) ?_
  refine lv_iconst (v := nI 1) S.1 S.2.1 dX8_price_1 (by decide) ?_
  refine lv_bipush (v := nI 6) S.1 S.2.1 dX8_price_2 (by decide) ?_
  refine kX8_within S  tw_658 (rok (by decide)) hl.1 (Nat.le_of_ble_eq_true rfl) dX8_price_4 ?_
  refine ly_ifeq (tgt := 26) S bI_e1 bI_e2 dX8_price_7 (by decide) (fun h1 => ?_) (fun h1 => ?_)
  · skip
    refine lv_bipush (v := (-2)) S.1 S.2.1 dX8_price_26 (by decide) ?_
    exact rt_i S hr hlk rfl dX8_price_28
  · skip
    refine lv_iload_n S.1 S.2.1 dX8_price_10 rfl (lv_at hl 2 rfl) ?_
    refine lv_bipush (v := (-9)) S.1 S.2.1 dX8_price_11 (by decide) ?_
    refine ly_cmeq (tgt := 29) S (fun q => q) (fun q => q) dX8_price_13 (by decide) (fun h2 => ?_) (fun h2 => ?_)
    · skip
      exact absurd hv (by simp [h1, h2])
    · skip
      refine lv_iload_n S.1 S.2.1 dX8_price_16 rfl (lv_at hl 2 rfl) ?_
      refine lv_iconst (v := nI 0) S.1 S.2.1 dX8_price_17 (by decide) ?_
      refine lv_bipush (v := nI 99) S.1 S.2.1 dX8_price_18 (by decide) ?_
      refine kX8_within S  tw_658 (rok (by decide)) hl.1 (Nat.le_of_ble_eq_true rfl) dX8_price_20 ?_
      refine ly_ifne (tgt := 29) S bI_e2 bI_e1 dX8_price_23 (by decide) (fun h3 => ?_) (fun h3 => ?_)
      · skip
        exact absurd hv (by simp [h1, h2, h3])
      · skip
        refine lv_bipush (v := (-2)) S.1 S.2.1 dX8_price_26 (by decide) ?_
        exact rt_i S hr hlk rfl dX8_price_28
theorem kX8_price_a {p : Program} {l : Launch} {e : Env} {R : Room} {s : State} {m : MethodId} {args : Array Value} {below : List Frame} {meth : Method} {c : Code} {H : Heap} {locs : List Loc} {cells slots : Nat} {Q : State → Prop} {cc : ByteArray} {nL index pc : Nat} {own : String} {ls : Array Slot} {rest : List Value} {D : va_G} {K : Nat → ClassId} {a : Nat → Nat} {w n lap : Nat} {op mu ba la en : Nat → Nat} {pr : Nat → Option Nat} {sc : MSc} {le : Int32} {v : Int32} (S : CallFix p m c cc nL s args lw_tb own) (hI : PI D K (mW K a w n lap op mu ba la en pr sc) s H) (hG : GOK w n lap op mu ba la en pr) (hv : (wiI le (nI 1) (nI 6) && (decide (v = -9) || wiI v (nI 0) (nI 99))) = false) (hlink : Cond.methodLink own index yX8_price ∈ lw_tb) (hR : RO 1 R cells slots) (hsz : ls.size = nL) (hW : (rest.map fun v => v.category).sum ≤ 8) (hdg : decode cc pc = .ok (.invokevirtual index, 3)) (kk : W p l e R s m args below meth c H locs cells slots Q (F0 m (pc + 3) ls (.int ((-2)) :: rest))) : W p l e R s m args below meth c H locs cells slots Q (F0 m pc ls (.int v :: .int le :: .ref (a 0) :: rest)) :=
  kV (As := [.int le, .int v]) (b := a 0) S (mX8_price_a l hG hv) hlink tw_686 tw_687 tw_50 tw_688 (by show _ ∧ _ ∧ _ = some 2; decide +kernel) (by decide) hR blP (piU hI) (va_recv hI.2 hI.1 (ci := 8) (q0 := 0) rfl rfl) hsz rfl hW hdg kk

set_option maxHeartbeats 4000000 in
set_option maxRecDepth 100000 in
theorem mX8_price_b (l : Launch) {D : va_G} {K : Nat → ClassId} {a : Nat → Nat} {w n lap : Nat} {op mu ba la en : Nat → Nat} {pr : Nat → Option Nat} {sc : MSc} {L : Nat} {q : Option Nat} (hDis : Dis a 13) (hG : GOK w n lap op mu ba la en pr) (hL1 : 1 ≤ L) (hL2 : L ≤ 6) (hq : ∀ k, q = some k → k ≤ 99) : Met l yX8_price (TWd yX8_price cX8_price 4 (some .int)) (rmk 1) (va_Pc [.ref (a 0), .int (nI L), .int (pI q)] (fun U => PI D K (mW K a w n lap op mu ba la en pr sc) U U.heap)) (QX D K (fun u : Unit => some (.int (pI (pr L)))) (fun u => (mW K a w n lap op mu ba la en (va_up pr L q) sc)) (fun u => True) (adA a 13)) 0 0 (adA a 13) := by
  refine mt_of (by decide +kernel) (Nat.le_of_ble_eq_true rfl) ?_
  intro p e s m below meth c S hr hlk hI ls hl
  have S : CallFix p m c cX8_price 4 s ([.ref (a 0), .int (nI L), .int (pI q)] : List Value).toArray lw_tb RX8 := S
  have hl : lv_has ls 4 [(0, .ref (a 0)), (1, .int (nI L)), (2, .int (pI q))] := hl
  have hS : va_S (adA a 13) s.heap s.heap [] := va_S.rf
  obtain ⟨gw1, gw2, gn, gl1, gl2, gop, gmu, gba, gla, gen, gpr, gop2, gmu2, gba2, gla2, gme, gbe, gle, gee⟩ := id hG
  refine lv_iload_n S.1 S.2.1 dX8_price_0 rfl (lv_at hl 1 rfl) ?_
  refine lv_iconst (v := nI 1) S.1 S.2.1 dX8_price_1 (by decide) ?_
  refine lv_bipush (v := nI 6) S.1 S.2.1 dX8_price_2 (by decide) ?_
  refine kX8_within S  tw_658 (rok (by decide)) hl.1 (Nat.le_of_ble_eq_true rfl) dX8_price_4 ?_
  refine ly_ifeq (tgt := 26) S bI_e1 bI_e2 dX8_price_7 (by decide) (fun h1 => ?_) (fun h1 => ?_)
  · skip
    exact absurd h1 (by rw [wiN (by omega) (by omega) (by omega)]; decide)
  · skip
    refine lv_iload_n S.1 S.2.1 dX8_price_10 rfl (lv_at hl 2 rfl) ?_
    refine lv_bipush (v := (-9)) S.1 S.2.1 dX8_price_11 (by decide) ?_
    refine ly_cmeq (tgt := 29) S (fun q => q) (fun q => q) dX8_price_13 (by decide) (fun h2 => ?_) (fun h2 => ?_)
    · skip
      refine lv_aload_n S.1 S.2.1 dX8_price_29 rfl (lv_at hl 0 rfl) ?_
      refine g8 S hI 0 rfl 6 (by decide) tw_613 rfl dX8_price_30 ?_
      refine lv_iload_n S.1 S.2.1 dX8_price_33 rfl (lv_at hl 1 rfl) ?_
      refine ly_iald (v := (pz 0 pr L)) S hI 5 rfl (by omega) (by decide) rfl dX8_price_34 ?_
      refine ly_top (z := (pI (pr L))) (by unfold pz; rw [if_neg (by omega)]) ?_
      refine lv_istore_n (lv' := [(3, .int (pI (pr L))), (0, .ref (a 0)), (1, .int (nI L)), (2, .int (pI q))]) S.1 S.2.1 dX8_price_35 rfl hl (by decide) rfl (fun ls hl => ?_)
      refine lv_aload_n S.1 S.2.1 dX8_price_36 rfl (lv_at hl 1 rfl) ?_
      refine g8 S hI 0 rfl 6 (by decide) tw_613 rfl dX8_price_37 ?_
      refine lv_iload_n S.1 S.2.1 dX8_price_40 rfl (lv_at hl 2 rfl) ?_
      refine lv_iload_n S.1 S.2.1 dX8_price_41 rfl (lv_at hl 3 rfl) ?_
      refine ly_iast (ws' := (mW K a w n lap op mu ba la en (va_up pr L q) sc)) S hI (mD hDis) hS 5 rfl (by omega) (by decide) (ms_5 (by omega)) dX8_price_42 (fun H locs hI hS => ?_)
      refine lv_iload_n S.1 S.2.1 dX8_price_43 rfl (lv_at hl 0 rfl) ?_
      exact rw_i S hr hlk () rfl trivial hI hS dX8_price_44
    · skip
      refine lv_iload_n S.1 S.2.1 dX8_price_16 rfl (lv_at hl 2 rfl) ?_
      refine lv_iconst (v := nI 0) S.1 S.2.1 dX8_price_17 (by decide) ?_
      refine lv_bipush (v := nI 99) S.1 S.2.1 dX8_price_18 (by decide) ?_
      refine kX8_within S  tw_658 (rok (by decide)) hl.1 (Nat.le_of_ble_eq_true rfl) dX8_price_20 ?_
      refine ly_ifne (tgt := 29) S bI_e2 bI_e1 dX8_price_23 (by decide) (fun h3 => ?_) (fun h3 => ?_)
      · skip
        refine lv_aload_n S.1 S.2.1 dX8_price_29 rfl (lv_at hl 0 rfl) ?_
        refine g8 S hI 0 rfl 6 (by decide) tw_613 rfl dX8_price_30 ?_
        refine lv_iload_n S.1 S.2.1 dX8_price_33 rfl (lv_at hl 1 rfl) ?_
        refine ly_iald (v := (pz 0 pr L)) S hI 5 rfl (by omega) (by decide) rfl dX8_price_34 ?_
        refine ly_top (z := (pI (pr L))) (by unfold pz; rw [if_neg (by omega)]) ?_
        refine lv_istore_n (lv' := [(3, .int (pI (pr L))), (0, .ref (a 0)), (1, .int (nI L)), (2, .int (pI q))]) S.1 S.2.1 dX8_price_35 rfl hl (by decide) rfl (fun ls hl => ?_)
        refine lv_aload_n S.1 S.2.1 dX8_price_36 rfl (lv_at hl 1 rfl) ?_
        refine g8 S hI 0 rfl 6 (by decide) tw_613 rfl dX8_price_37 ?_
        refine lv_iload_n S.1 S.2.1 dX8_price_40 rfl (lv_at hl 2 rfl) ?_
        refine lv_iload_n S.1 S.2.1 dX8_price_41 rfl (lv_at hl 3 rfl) ?_
        refine ly_iast (ws' := (mW K a w n lap op mu ba la en (va_up pr L q) sc)) S hI (mD hDis) hS 5 rfl (by omega) (by decide) (ms_5 (by omega)) dX8_price_42 (fun H locs hI hS => ?_)
        refine lv_iload_n S.1 S.2.1 dX8_price_43 rfl (lv_at hl 0 rfl) ?_
        exact rw_i S hr hlk () rfl trivial hI hS dX8_price_44
      · skip
        exact absurd h3 (by rw [pI_w hq h2]; decide)
theorem kX8_price_b {p : Program} {l : Launch} {e : Env} {R : Room} {s : State} {m : MethodId} {args : Array Value} {below : List Frame} {meth : Method} {c : Code} {H H0 : Heap} {locs : List Loc} {cells slots : Nat} {Q : State → Prop} {cc : ByteArray} {nL index pc : Nat} {own : String} {ls : Array Slot} {rest : List Value} {D : va_G} {K : Nat → ClassId} {a : Nat → Nat} {w n lap : Nat} {op mu ba la en : Nat → Nat} {pr : Nat → Option Nat} {sc : MSc} {L : Nat} {q : Option Nat} (S : CallFix p m c cc nL s args lw_tb own) (hI : PI D K (mW K a w n lap op mu ba la en pr sc) s H) (hS : va_S (adA a 13) H0 H locs) (hDis : Dis a 13) (hG : GOK w n lap op mu ba la en pr) (hL1 : 1 ≤ L) (hL2 : L ≤ 6) (hq : ∀ k, q = some k → k ≤ 99) (hlink : Cond.methodLink own index yX8_price ∈ lw_tb) (hR : RO 1 R cells slots) (hsz : ls.size = nL) (hW : (rest.map fun v => v.category).sum ≤ 8) (hdg : decode cc pc = .ok (.invokevirtual index, 3)) (kk : ∀ (u : Unit) (H1 : Heap) (locs1 : List Loc), (True) → PI D K (mW K a w n lap op mu ba la en (va_up pr L q) sc) s H1 → va_S (adA a 13) H0 H1 locs1 → H.size ≤ H1.size → (∀ q : Nat, q < H.size → ¬ (adA a 13) q → H1[q]? = H[q]?) → W p l e R s m args below meth c H1 locs1 cells slots Q (F0 m (pc + 3) ls ((.int (pI (pr L))) :: rest))) : W p l e R s m args below meth c H locs cells slots Q (F0 m pc ls (.int (pI q) :: .int (nI L) :: .ref (a 0) :: rest)) :=
  kVX (As := [.int (nI L), .int (pI q)]) (b := a 0) S (mX8_price_b l hDis hG hL1 hL2 hq) hlink tw_686 tw_687 tw_50 tw_688 (by show _ ∧ _ ∧ _ = some 2; decide +kernel) (by decide) hR blP (piU hI) (va_recv hI.2 hI.1 (ci := 8) (q0 := 0) rfl rfl) hS (fun _ h => h) hsz rfl hW hdg kk

set_option maxHeartbeats 4000000 in
set_option maxRecDepth 100000 in
theorem mX8_lap_a (l : Launch) {D : va_G} {K : Nat → ClassId} {a : Nat → Nat} {w n lap : Nat} {op mu ba la en : Nat → Nat} {pr : Nat → Option Nat} {sc : MSc} {v : Int32} (hG : GOK w n lap op mu ba la en pr) (hv : wiI v (nI 1) (nI 3) = false) : Met l yX8_lap (TWd yX8_lap cX8_lap 3 (some .int)) (rmk 1) (va_Pc [.ref (a 0), .int v] (fun U => PI D K (mW K a w n lap op mu ba la en pr sc) U U.heap)) (QcRead ((-2))) 0 0 (fun _ => False) := by
  refine mt_of (by decide +kernel) (Nat.le_of_ble_eq_true rfl) ?_
  intro p e s m below meth c S hr hlk hI ls hl
  have S : CallFix p m c cX8_lap 3 s ([.ref (a 0), .int v] : List Value).toArray lw_tb RX8 := S
  have hl : lv_has ls 3 [(0, .ref (a 0)), (1, .int v)] := hl
  obtain ⟨gw1, gw2, gn, gl1, gl2, gop, gmu, gba, gla, gen, gpr, gop2, gmu2, gba2, gla2, gme, gbe, gle, gee⟩ := id hG
  refine lv_iload_n S.1 S.2.1 dX8_lap_0 rfl (lv_at hl 1 rfl) ?_
  refine lv_iconst (v := nI 1) S.1 S.2.1 dX8_lap_1 (by decide) ?_
  refine lv_iconst (v := nI 3) S.1 S.2.1 dX8_lap_2 (by decide) ?_
  refine kX8_within S  tw_658 (rok (by decide)) hl.1 (Nat.le_of_ble_eq_true rfl) dX8_lap_3 ?_
  refine ly_ifne (tgt := 12) S bI_e2 bI_e1 dX8_lap_6 (by decide) (fun h1 => ?_) (fun h1 => ?_)
  · skip
    exact absurd h1 (by rw [hv]; decide)
  · skip
    refine lv_bipush (v := (-2)) S.1 S.2.1 dX8_lap_9 (by decide) ?_
    exact rt_i S hr hlk rfl dX8_lap_11
theorem kX8_lap_a {p : Program} {l : Launch} {e : Env} {R : Room} {s : State} {m : MethodId} {args : Array Value} {below : List Frame} {meth : Method} {c : Code} {H : Heap} {locs : List Loc} {cells slots : Nat} {Q : State → Prop} {cc : ByteArray} {nL index pc : Nat} {own : String} {ls : Array Slot} {rest : List Value} {D : va_G} {K : Nat → ClassId} {a : Nat → Nat} {w n lap : Nat} {op mu ba la en : Nat → Nat} {pr : Nat → Option Nat} {sc : MSc} {v : Int32} (S : CallFix p m c cc nL s args lw_tb own) (hI : PI D K (mW K a w n lap op mu ba la en pr sc) s H) (hG : GOK w n lap op mu ba la en pr) (hv : wiI v (nI 1) (nI 3) = false) (hlink : Cond.methodLink own index yX8_lap ∈ lw_tb) (hR : RO 1 R cells slots) (hsz : ls.size = nL) (hW : (rest.map fun v => v.category).sum ≤ 8) (hdg : decode cc pc = .ok (.invokevirtual index, 3)) (kk : W p l e R s m args below meth c H locs cells slots Q (F0 m (pc + 3) ls (.int ((-2)) :: rest))) : W p l e R s m args below meth c H locs cells slots Q (F0 m pc ls (.int v :: .ref (a 0) :: rest)) :=
  kV (As := [.int v]) (b := a 0) S (mX8_lap_a l hG hv) hlink tw_690 tw_691 tw_50 tw_692 (by show _ ∧ _ ∧ _ = some 1; decide +kernel) (by decide) hR blP (piU hI) (va_recv hI.2 hI.1 (ci := 8) (q0 := 0) rfl rfl) hsz rfl hW hdg kk

set_option maxHeartbeats 4000000 in
set_option maxRecDepth 100000 in
theorem mX8_lap_b (l : Launch) {D : va_G} {K : Nat → ClassId} {a : Nat → Nat} {w n lap : Nat} {op mu ba la en : Nat → Nat} {pr : Nat → Option Nat} {sc : MSc} {k : Nat} (hDis : Dis a 13) (hG : GOK w n lap op mu ba la en pr) (h1 : 1 ≤ k) (h2 : k ≤ 3) : Met l yX8_lap (TWd yX8_lap cX8_lap 3 (some .int)) (rmk 1) (va_Pc [.ref (a 0), .int (nI k)] (fun U => PI D K (mW K a w n lap op mu ba la en pr sc) U U.heap)) (QX D K (fun u : Unit => some (.int (nI lap))) (fun u => (mW K a w n k op mu ba la en pr sc)) (fun u => True) (adA a 13)) 0 0 (adA a 13) := by
  refine mt_of (by decide +kernel) (Nat.le_of_ble_eq_true rfl) ?_
  intro p e s m below meth c S hr hlk hI ls hl
  have S : CallFix p m c cX8_lap 3 s ([.ref (a 0), .int (nI k)] : List Value).toArray lw_tb RX8 := S
  have hl : lv_has ls 3 [(0, .ref (a 0)), (1, .int (nI k))] := hl
  have hS : va_S (adA a 13) s.heap s.heap [] := va_S.rf
  obtain ⟨gw1, gw2, gn, gl1, gl2, gop, gmu, gba, gla, gen, gpr, gop2, gmu2, gba2, gla2, gme, gbe, gle, gee⟩ := id hG
  refine lv_iload_n S.1 S.2.1 dX8_lap_0 rfl (lv_at hl 1 rfl) ?_
  refine lv_iconst (v := nI 1) S.1 S.2.1 dX8_lap_1 (by decide) ?_
  refine lv_iconst (v := nI 3) S.1 S.2.1 dX8_lap_2 (by decide) ?_
  refine kX8_within S  tw_658 (rok (by decide)) hl.1 (Nat.le_of_ble_eq_true rfl) dX8_lap_3 ?_
  refine ly_ifne (tgt := 12) S bI_e2 bI_e1 dX8_lap_6 (by decide) (fun h1 => ?_) (fun h1 => ?_)
  · skip
    refine lv_aload_n S.1 S.2.1 dX8_lap_12 rfl (lv_at hl 0 rfl) ?_
    refine g8 S hI 0 rfl 8 (by decide) tw_615 rfl dX8_lap_13 ?_
    refine lv_istore_n (lv' := [(2, .int (nI lap)), (0, .ref (a 0)), (1, .int (nI k))]) S.1 S.2.1 dX8_lap_16 rfl hl (by decide) rfl (fun ls hl => ?_)
    refine lv_aload_n S.1 S.2.1 dX8_lap_17 rfl (lv_at hl 1 rfl) ?_
    refine lv_iload_n S.1 S.2.1 dX8_lap_18 rfl (lv_at hl 2 rfl) ?_
    refine p8 (ws' := (mW K a w n k op mu ba la en pr sc)) S hI (mD hDis) hS 0 rfl 8 (by decide) tw_615 rfl rfl rfl rfl (Nat.le_of_ble_eq_true rfl) rfl dX8_lap_19 (fun H locs hI hS => ?_)
    refine lv_iload_n S.1 S.2.1 dX8_lap_22 rfl (lv_at hl 0 rfl) ?_
    exact rw_i S hr hlk () rfl trivial hI hS dX8_lap_23
  · skip
    exact absurd h1 (by rw [wiN (by omega) (by omega) (by omega)]; decide)
theorem kX8_lap_b {p : Program} {l : Launch} {e : Env} {R : Room} {s : State} {m : MethodId} {args : Array Value} {below : List Frame} {meth : Method} {c : Code} {H H0 : Heap} {locs : List Loc} {cells slots : Nat} {Q : State → Prop} {cc : ByteArray} {nL index pc : Nat} {own : String} {ls : Array Slot} {rest : List Value} {D : va_G} {K : Nat → ClassId} {a : Nat → Nat} {w n lap : Nat} {op mu ba la en : Nat → Nat} {pr : Nat → Option Nat} {sc : MSc} {k : Nat} (S : CallFix p m c cc nL s args lw_tb own) (hI : PI D K (mW K a w n lap op mu ba la en pr sc) s H) (hS : va_S (adA a 13) H0 H locs) (hDis : Dis a 13) (hG : GOK w n lap op mu ba la en pr) (h1 : 1 ≤ k) (h2 : k ≤ 3) (hlink : Cond.methodLink own index yX8_lap ∈ lw_tb) (hR : RO 1 R cells slots) (hsz : ls.size = nL) (hW : (rest.map fun v => v.category).sum ≤ 8) (hdg : decode cc pc = .ok (.invokevirtual index, 3)) (kk : ∀ (u : Unit) (H1 : Heap) (locs1 : List Loc), (True) → PI D K (mW K a w n k op mu ba la en pr sc) s H1 → va_S (adA a 13) H0 H1 locs1 → H.size ≤ H1.size → (∀ q : Nat, q < H.size → ¬ (adA a 13) q → H1[q]? = H[q]?) → W p l e R s m args below meth c H1 locs1 cells slots Q (F0 m (pc + 3) ls ((.int (nI lap)) :: rest))) : W p l e R s m args below meth c H locs cells slots Q (F0 m pc ls (.int (nI k) :: .ref (a 0) :: rest)) :=
  kVX (As := [.int (nI k)]) (b := a 0) S (mX8_lap_b l hDis hG h1 h2) hlink tw_690 tw_691 tw_50 tw_692 (by show _ ∧ _ ∧ _ = some 1; decide +kernel) (by decide) hR blP (piU hI) (va_recv hI.2 hI.1 (ci := 8) (q0 := 0) rfl rfl) hS (fun _ h => h) hsz rfl hW hdg kk

set_option maxHeartbeats 4000000 in
set_option maxRecDepth 100000 in
theorem mX8_ends_a (l : Launch) {D : va_G} {K : Nat → ClassId} {a : Nat → Nat} {w n lap : Nat} {op mu ba la en : Nat → Nat} {pr : Nat → Option Nat} {sc : MSc} {od : Int32} {sd : Int32} {z : Int32} (hG : GOK w n lap op mu ba la en pr) (hv : (wiI od (nI 0) (nI 1) && wiI sd (nI 0) (nI 1) && wiI z (nI 0) (nI 126) && !decide (z - z / nI 2 * nI 2 = nI 1)) = false) : Met l yX8_ends (TWd yX8_ends cX8_ends 5 (some .int)) (rmk 1) (va_Pc [.ref (a 0), .int od, .int sd, .int z] (fun U => PI D K (mW K a w n lap op mu ba la en pr sc) U U.heap)) (QcRead ((-2))) 0 0 (fun _ => False) := by
  refine mt_of (by decide +kernel) (Nat.le_of_ble_eq_true rfl) ?_
  intro p e s m below meth c S hr hlk hI ls hl
  have S : CallFix p m c cX8_ends 5 s ([.ref (a 0), .int od, .int sd, .int z] : List Value).toArray lw_tb RX8 := S
  have hl : lv_has ls 5 [(0, .ref (a 0)), (1, .int od), (2, .int sd), (3, .int z)] := hl
  obtain ⟨gw1, gw2, gn, gl1, gl2, gop, gmu, gba, gla, gen, gpr, gop2, gmu2, gba2, gla2, gme, gbe, gle, gee⟩ := id hG
  refine lv_iload_n S.1 S.2.1 dX8_ends_0 rfl (lv_at hl 1 rfl) ?_
  refine lv_iconst (v := nI 0) S.1 S.2.1 dX8_ends_1 (by decide) ?_
  refine lv_iconst (v := nI 1) S.1 S.2.1 dX8_ends_2 (by decide) ?_
  refine kX8_within S  tw_658 (rok (by decide)) hl.1 (Nat.le_of_ble_eq_true rfl) dX8_ends_3 ?_
  refine ly_ifeq (tgt := 35) S bI_e1 bI_e2 dX8_ends_6 (by decide) (fun h1 => ?_) (fun h1 => ?_)
  · skip
    refine lv_bipush (v := (-2)) S.1 S.2.1 dX8_ends_35 (by decide) ?_
    exact rt_i S hr hlk rfl dX8_ends_37
  · skip
    refine lv_iload_n S.1 S.2.1 dX8_ends_9 rfl (lv_at hl 2 rfl) ?_
    refine lv_iconst (v := nI 0) S.1 S.2.1 dX8_ends_10 (by decide) ?_
    refine lv_iconst (v := nI 1) S.1 S.2.1 dX8_ends_11 (by decide) ?_
    refine kX8_within S  tw_658 (rok (by decide)) hl.1 (Nat.le_of_ble_eq_true rfl) dX8_ends_12 ?_
    refine ly_ifeq (tgt := 35) S bI_e1 bI_e2 dX8_ends_15 (by decide) (fun h2 => ?_) (fun h2 => ?_)
    · skip
      refine lv_bipush (v := (-2)) S.1 S.2.1 dX8_ends_35 (by decide) ?_
      exact rt_i S hr hlk rfl dX8_ends_37
    · skip
      refine lv_iload_n S.1 S.2.1 dX8_ends_18 rfl (lv_at hl 3 rfl) ?_
      refine lv_iconst (v := nI 0) S.1 S.2.1 dX8_ends_19 (by decide) ?_
      refine lv_bipush (v := nI 126) S.1 S.2.1 dX8_ends_20 (by decide) ?_
      refine kX8_within S  tw_658 (rok (by decide)) hl.1 (Nat.le_of_ble_eq_true rfl) dX8_ends_22 ?_
      refine ly_ifeq (tgt := 35) S bI_e1 bI_e2 dX8_ends_25 (by decide) (fun h3 => ?_) (fun h3 => ?_)
      · skip
        refine lv_bipush (v := (-2)) S.1 S.2.1 dX8_ends_35 (by decide) ?_
        exact rt_i S hr hlk rfl dX8_ends_37
      · skip
        refine lv_iload_n S.1 S.2.1 dX8_ends_28 rfl (lv_at hl 3 rfl) ?_
        refine lv_iconst (v := nI 2) S.1 S.2.1 dX8_ends_29 (by decide) ?_
        refine lv_irem S.1 S.2.1 dX8_ends_30 (by decide) ?_
        refine lv_iconst (v := nI 1) S.1 S.2.1 dX8_ends_31 (by decide) ?_
        refine ly_cmne (tgt := 38) S (fun q => q) (fun q => q) dX8_ends_32 (by decide) (fun h4 => ?_) (fun h4 => ?_)
        · skip
          exact absurd hv (by simp [h1, h2, h3, h4])
        · skip
          refine lv_bipush (v := (-2)) S.1 S.2.1 dX8_ends_35 (by decide) ?_
          exact rt_i S hr hlk rfl dX8_ends_37
theorem kX8_ends_a {p : Program} {l : Launch} {e : Env} {R : Room} {s : State} {m : MethodId} {args : Array Value} {below : List Frame} {meth : Method} {c : Code} {H : Heap} {locs : List Loc} {cells slots : Nat} {Q : State → Prop} {cc : ByteArray} {nL index pc : Nat} {own : String} {ls : Array Slot} {rest : List Value} {D : va_G} {K : Nat → ClassId} {a : Nat → Nat} {w n lap : Nat} {op mu ba la en : Nat → Nat} {pr : Nat → Option Nat} {sc : MSc} {od : Int32} {sd : Int32} {z : Int32} (S : CallFix p m c cc nL s args lw_tb own) (hI : PI D K (mW K a w n lap op mu ba la en pr sc) s H) (hG : GOK w n lap op mu ba la en pr) (hv : (wiI od (nI 0) (nI 1) && wiI sd (nI 0) (nI 1) && wiI z (nI 0) (nI 126) && !decide (z - z / nI 2 * nI 2 = nI 1)) = false) (hlink : Cond.methodLink own index yX8_ends ∈ lw_tb) (hR : RO 1 R cells slots) (hsz : ls.size = nL) (hW : (rest.map fun v => v.category).sum ≤ 8) (hdg : decode cc pc = .ok (.invokevirtual index, 3)) (kk : W p l e R s m args below meth c H locs cells slots Q (F0 m (pc + 3) ls (.int ((-2)) :: rest))) : W p l e R s m args below meth c H locs cells slots Q (F0 m pc ls (.int z :: .int sd :: .int od :: .ref (a 0) :: rest)) :=
  kV (As := [.int od, .int sd, .int z]) (b := a 0) S (mX8_ends_a l hG hv) hlink tw_694 tw_695 tw_50 tw_696 (by show _ ∧ _ ∧ _ = some 3; decide +kernel) (by decide) hR blP (piU hI) (va_recv hI.2 hI.1 (ci := 8) (q0 := 0) rfl rfl) hsz rfl hW hdg kk

set_option maxHeartbeats 4000000 in
set_option maxRecDepth 100000 in
theorem mX8_ends_b (l : Launch) {D : va_G} {K : Nat → ClassId} {a : Nat → Nat} {w n lap : Nat} {op mu ba la en : Nat → Nat} {pr : Nat → Option Nat} {sc : MSc} {od : Nat} {sd : Nat} {k : Nat} (hDis : Dis a 13) (hG : GOK w n lap op mu ba la en pr) (h1 : od ≤ 1) (h2 : sd ≤ 1) (h3 : k ≤ 126) (h4 : k % 2 = 0) : Met l yX8_ends (TWd yX8_ends cX8_ends 5 (some .int)) (rmk 1) (va_Pc [.ref (a 0), .int (nI od), .int (nI sd), .int (nI k)] (fun U => PI D K (mW K a w n lap op mu ba la en pr sc) U U.heap)) (QX D K (fun u : Unit => some (.int (nI (en (2 * od + sd))))) (fun u => (mW K a w n lap op mu ba la (va_up en (2 * od + sd) k) pr sc)) (fun u => True) (adA a 13)) 0 0 (adA a 13) := by
  refine mt_of (by decide +kernel) (Nat.le_of_ble_eq_true rfl) ?_
  intro p e s m below meth c S hr hlk hI ls hl
  have S : CallFix p m c cX8_ends 5 s ([.ref (a 0), .int (nI od), .int (nI sd), .int (nI k)] : List Value).toArray lw_tb RX8 := S
  have hl : lv_has ls 5 [(0, .ref (a 0)), (1, .int (nI od)), (2, .int (nI sd)), (3, .int (nI k))] := hl
  have hS : va_S (adA a 13) s.heap s.heap [] := va_S.rf
  obtain ⟨gw1, gw2, gn, gl1, gl2, gop, gmu, gba, gla, gen, gpr, gop2, gmu2, gba2, gla2, gme, gbe, gle, gee⟩ := id hG
  refine lv_iload_n S.1 S.2.1 dX8_ends_0 rfl (lv_at hl 1 rfl) ?_
  refine lv_iconst (v := nI 0) S.1 S.2.1 dX8_ends_1 (by decide) ?_
  refine lv_iconst (v := nI 1) S.1 S.2.1 dX8_ends_2 (by decide) ?_
  refine kX8_within S  tw_658 (rok (by decide)) hl.1 (Nat.le_of_ble_eq_true rfl) dX8_ends_3 ?_
  refine ly_ifeq (tgt := 35) S bI_e1 bI_e2 dX8_ends_6 (by decide) (fun h1 => ?_) (fun h1 => ?_)
  · skip
    exact absurd h1 (by rw [wiN (by omega) (by omega) (by omega)]; decide)
  · skip
    refine lv_iload_n S.1 S.2.1 dX8_ends_9 rfl (lv_at hl 2 rfl) ?_
    refine lv_iconst (v := nI 0) S.1 S.2.1 dX8_ends_10 (by decide) ?_
    refine lv_iconst (v := nI 1) S.1 S.2.1 dX8_ends_11 (by decide) ?_
    refine kX8_within S  tw_658 (rok (by decide)) hl.1 (Nat.le_of_ble_eq_true rfl) dX8_ends_12 ?_
    refine ly_ifeq (tgt := 35) S bI_e1 bI_e2 dX8_ends_15 (by decide) (fun h2 => ?_) (fun h2 => ?_)
    · skip
      exact absurd h2 (by rw [wiN (by omega) (by omega) (by omega)]; decide)
    · skip
      refine lv_iload_n S.1 S.2.1 dX8_ends_18 rfl (lv_at hl 3 rfl) ?_
      refine lv_iconst (v := nI 0) S.1 S.2.1 dX8_ends_19 (by decide) ?_
      refine lv_bipush (v := nI 126) S.1 S.2.1 dX8_ends_20 (by decide) ?_
      refine kX8_within S  tw_658 (rok (by decide)) hl.1 (Nat.le_of_ble_eq_true rfl) dX8_ends_22 ?_
      refine ly_ifeq (tgt := 35) S bI_e1 bI_e2 dX8_ends_25 (by decide) (fun h3 => ?_) (fun h3 => ?_)
      · skip
        exact absurd h3 (by rw [wiN (by omega) (by omega) (by omega)]; decide)
      · skip
        refine lv_iload_n S.1 S.2.1 dX8_ends_28 rfl (lv_at hl 3 rfl) ?_
        refine lv_iconst (v := nI 2) S.1 S.2.1 dX8_ends_29 (by decide) ?_
        refine lv_irem S.1 S.2.1 dX8_ends_30 (by decide) ?_
        refine ly_top (z := nI (k % 2)) (nI_rem (by omega) (by omega) (by omega)) ?_
        refine lv_iconst (v := nI 1) S.1 S.2.1 dX8_ends_31 (by decide) ?_
        refine ly_cmne (tgt := 38) S (nI_e2 (by omega) (by omega)) (nI_e1 (by omega) (by omega)) dX8_ends_32 (by decide) (fun h4 => ?_) (fun h4 => ?_)
        · skip
          refine lv_aload_n S.1 S.2.1 dX8_ends_38 rfl (lv_at hl 0 rfl) ?_
          refine g8 S hI 0 rfl 7 (by decide) tw_614 rfl dX8_ends_39 ?_
          refine lv_iconst (v := nI 2) S.1 S.2.1 dX8_ends_42 (by decide) ?_
          refine lv_iload_n S.1 S.2.1 dX8_ends_43 rfl (lv_at hl 1 rfl) ?_
          refine lv_imul S.1 S.2.1 dX8_ends_44 ?_
          refine ly_top (z := nI (2 * od)) (pk_mul _ _) ?_
          refine lv_iload_n S.1 S.2.1 dX8_ends_45 rfl (lv_at hl 2 rfl) ?_
          refine lv_iadd S.1 S.2.1 dX8_ends_46 ?_
          refine ly_top (z := nI ((2 * od) + sd)) (nI_add _ _) ?_
          refine ly_top (z := (nI (2 * od + sd))) rfl ?_
          refine ly_iald (v := (nI (en (2 * od + sd)))) S hI 6 rfl (by omega) (by decide) rfl dX8_ends_47 ?_
          refine lv_istore (lv' := [(4, .int (nI (en (2 * od + sd)))), (0, .ref (a 0)), (1, .int (nI od)), (2, .int (nI sd)), (3, .int (nI k))]) S.1 S.2.1 dX8_ends_48 hl (by decide) rfl (fun ls hl => ?_)
          refine lv_aload_n S.1 S.2.1 dX8_ends_50 rfl (lv_at hl 1 rfl) ?_
          refine g8 S hI 0 rfl 7 (by decide) tw_614 rfl dX8_ends_51 ?_
          refine lv_iconst (v := nI 2) S.1 S.2.1 dX8_ends_54 (by decide) ?_
          refine lv_iload_n S.1 S.2.1 dX8_ends_55 rfl (lv_at hl 2 rfl) ?_
          refine lv_imul S.1 S.2.1 dX8_ends_56 ?_
          refine ly_top (z := nI (2 * od)) (pk_mul _ _) ?_
          refine lv_iload_n S.1 S.2.1 dX8_ends_57 rfl (lv_at hl 3 rfl) ?_
          refine lv_iadd S.1 S.2.1 dX8_ends_58 ?_
          refine ly_top (z := nI ((2 * od) + sd)) (nI_add _ _) ?_
          refine ly_top (z := (nI (2 * od + sd))) rfl ?_
          refine lv_iload_n S.1 S.2.1 dX8_ends_59 rfl (lv_at hl 4 rfl) ?_
          refine ly_iast (ws' := (mW K a w n lap op mu ba la (va_up en (2 * od + sd) k) pr sc)) S hI (mD hDis) hS 6 rfl (by omega) (by decide) ms_6 dX8_ends_60 (fun H locs hI hS => ?_)
          refine lv_iload S.1 S.2.1 dX8_ends_61 (lv_at hl 0 rfl) ?_
          exact rw_i S hr hlk () rfl trivial hI hS dX8_ends_63
        · skip
          exact absurd h4 (by omega)
theorem kX8_ends_b {p : Program} {l : Launch} {e : Env} {R : Room} {s : State} {m : MethodId} {args : Array Value} {below : List Frame} {meth : Method} {c : Code} {H H0 : Heap} {locs : List Loc} {cells slots : Nat} {Q : State → Prop} {cc : ByteArray} {nL index pc : Nat} {own : String} {ls : Array Slot} {rest : List Value} {D : va_G} {K : Nat → ClassId} {a : Nat → Nat} {w n lap : Nat} {op mu ba la en : Nat → Nat} {pr : Nat → Option Nat} {sc : MSc} {od : Nat} {sd : Nat} {k : Nat} (S : CallFix p m c cc nL s args lw_tb own) (hI : PI D K (mW K a w n lap op mu ba la en pr sc) s H) (hS : va_S (adA a 13) H0 H locs) (hDis : Dis a 13) (hG : GOK w n lap op mu ba la en pr) (h1 : od ≤ 1) (h2 : sd ≤ 1) (h3 : k ≤ 126) (h4 : k % 2 = 0) (hlink : Cond.methodLink own index yX8_ends ∈ lw_tb) (hR : RO 1 R cells slots) (hsz : ls.size = nL) (hW : (rest.map fun v => v.category).sum ≤ 8) (hdg : decode cc pc = .ok (.invokevirtual index, 3)) (kk : ∀ (u : Unit) (H1 : Heap) (locs1 : List Loc), (True) → PI D K (mW K a w n lap op mu ba la (va_up en (2 * od + sd) k) pr sc) s H1 → va_S (adA a 13) H0 H1 locs1 → H.size ≤ H1.size → (∀ q : Nat, q < H.size → ¬ (adA a 13) q → H1[q]? = H[q]?) → W p l e R s m args below meth c H1 locs1 cells slots Q (F0 m (pc + 3) ls ((.int (nI (en (2 * od + sd)))) :: rest))) : W p l e R s m args below meth c H locs cells slots Q (F0 m pc ls (.int (nI k) :: .int (nI sd) :: .int (nI od) :: .ref (a 0) :: rest)) :=
  kVX (As := [.int (nI od), .int (nI sd), .int (nI k)]) (b := a 0) S (mX8_ends_b l hDis hG h1 h2 h3 h4) hlink tw_694 tw_695 tw_50 tw_696 (by show _ ∧ _ ∧ _ = some 3; decide +kernel) (by decide) hR blP (piU hI) (va_recv hI.2 hI.1 (ci := 8) (q0 := 0) rfl rfl) hS (fun _ h => h) hsz rfl hW hdg kk

set_option maxHeartbeats 4000000 in
set_option maxRecDepth 100000 in
theorem mX8_ofCourse_a (l : Launch) {D : va_G} {K : Nat → ClassId} {a : Nat → Nat} {w n lap : Nat} {op mu ba la en : Nat → Nat} {pr : Nat → Option Nat} {sc : MSc} {v : Int32} {wh : Int32} (hG : GOK w n lap op mu ba la en pr) (hv : wiI v 0 (nI n - 1) = false) : Met l yX8_ofCourse (TWd yX8_ofCourse cX8_ofCourse 3 (some .int)) (rmk 2) (va_Pc [.ref (a 0), .int v, .int wh] (fun U => PI D K (mW K a w n lap op mu ba la en pr sc) U U.heap)) (QcRead ((-1))) 0 0 (fun _ => False) := by
  refine mt_of (by decide +kernel) (Nat.le_of_ble_eq_true rfl) ?_
  intro p e s m below meth c S hr hlk hI ls hl
  have S : CallFix p m c cX8_ofCourse 3 s ([.ref (a 0), .int v, .int wh] : List Value).toArray lw_tb RX8 := S
  have hl : lv_has ls 3 [(0, .ref (a 0)), (1, .int v), (2, .int wh)] := hl
  obtain ⟨gw1, gw2, gn, gl1, gl2, gop, gmu, gba, gla, gen, gpr, gop2, gmu2, gba2, gla2, gme, gbe, gle, gee⟩ := id hG
  refine lv_aload_n S.1 S.2.1 dX8_ofCourse_0 rfl (lv_at hl 0 rfl) ?_
  refine lv_iload_n S.1 S.2.1 dX8_ofCourse_1 rfl (lv_at hl 1 rfl) ?_
  refine kX8_isCourse S hI hG tw_673 (rok (by decide)) hl.1 (Nat.le_of_ble_eq_true rfl) dX8_ofCourse_2 ?_
  refine ly_ifne (tgt := 10) S bI_e2 bI_e1 dX8_ofCourse_5 (by decide) (fun h1 => ?_) (fun h1 => ?_)
  · skip
    exact absurd h1 (by rw [hv]; decide)
  · skip
    refine lv_iconst (v := (-1)) S.1 S.2.1 dX8_ofCourse_8 (by decide) ?_
    exact rt_i S hr hlk rfl dX8_ofCourse_9
theorem kX8_ofCourse_a {p : Program} {l : Launch} {e : Env} {R : Room} {s : State} {m : MethodId} {args : Array Value} {below : List Frame} {meth : Method} {c : Code} {H : Heap} {locs : List Loc} {cells slots : Nat} {Q : State → Prop} {cc : ByteArray} {nL index pc : Nat} {own : String} {ls : Array Slot} {rest : List Value} {D : va_G} {K : Nat → ClassId} {a : Nat → Nat} {w n lap : Nat} {op mu ba la en : Nat → Nat} {pr : Nat → Option Nat} {sc : MSc} {v : Int32} {wh : Int32} (S : CallFix p m c cc nL s args lw_tb own) (hI : PI D K (mW K a w n lap op mu ba la en pr sc) s H) (hG : GOK w n lap op mu ba la en pr) (hv : wiI v 0 (nI n - 1) = false) (hlink : Cond.methodLink own index yX8_ofCourse ∈ lw_tb) (hR : RO 2 R cells slots) (hsz : ls.size = nL) (hW : (rest.map fun v => v.category).sum ≤ 8) (hdg : decode cc pc = .ok (.invokevirtual index, 3)) (kk : W p l e R s m args below meth c H locs cells slots Q (F0 m (pc + 3) ls (.int ((-1)) :: rest))) : W p l e R s m args below meth c H locs cells slots Q (F0 m pc ls (.int wh :: .int v :: .ref (a 0) :: rest)) :=
  kV (As := [.int v, .int wh]) (b := a 0) S (mX8_ofCourse_a l hG hv) hlink tw_698 tw_699 tw_50 tw_700 (by show _ ∧ _ ∧ _ = some 2; decide +kernel) (by decide) hR blP (piU hI) (va_recv hI.2 hI.1 (ci := 8) (q0 := 0) rfl rfl) hsz rfl hW hdg kk

set_option maxHeartbeats 4000000 in
set_option maxRecDepth 100000 in
theorem mX8_ofCourse_b (l : Launch) {D : va_G} {K : Nat → ClassId} {a : Nat → Nat} {w n lap : Nat} {op mu ba la en : Nat → Nat} {pr : Nat → Option Nat} {sc : MSc} {ci : Nat} {wh : Int32} (hG : GOK w n lap op mu ba la en pr) (hc : ci < n) (hw : wh.toInt < 0 ∨ 4 < wh.toInt) : Met l yX8_ofCourse (TWd yX8_ofCourse cX8_ofCourse 3 (some .int)) (rmk 2) (va_Pc [.ref (a 0), .int (nI ci), .int wh] (fun U => PI D K (mW K a w n lap op mu ba la en pr sc) U U.heap)) (QcRead ((-2))) 0 0 (fun _ => False) := by
  refine mt_of (by decide +kernel) (Nat.le_of_ble_eq_true rfl) ?_
  intro p e s m below meth c S hr hlk hI ls hl
  have S : CallFix p m c cX8_ofCourse 3 s ([.ref (a 0), .int (nI ci), .int wh] : List Value).toArray lw_tb RX8 := S
  have hl : lv_has ls 3 [(0, .ref (a 0)), (1, .int (nI ci)), (2, .int wh)] := hl
  obtain ⟨gw1, gw2, gn, gl1, gl2, gop, gmu, gba, gla, gen, gpr, gop2, gmu2, gba2, gla2, gme, gbe, gle, gee⟩ := id hG
  refine lv_aload_n S.1 S.2.1 dX8_ofCourse_0 rfl (lv_at hl 0 rfl) ?_
  refine lv_iload_n S.1 S.2.1 dX8_ofCourse_1 rfl (lv_at hl 1 rfl) ?_
  refine kX8_isCourse S hI hG tw_673 (rok (by decide)) hl.1 (Nat.le_of_ble_eq_true rfl) dX8_ofCourse_2 ?_
  refine ly_ifne (tgt := 10) S bI_e2 bI_e1 dX8_ofCourse_5 (by decide) (fun h1 => ?_) (fun h1 => ?_)
  · skip
    refine lv_iload_n S.1 S.2.1 dX8_ofCourse_10 rfl (lv_at hl 2 rfl) ?_
    refine lv_tableOut (tgt := 78) S.1 S.2.1 dX8_ofCourse_11 hw (by decide) ?_
    refine lv_bipush (v := (-2)) S.1 S.2.1 dX8_ofCourse_78 (by decide) ?_
    exact rt_i S hr hlk rfl dX8_ofCourse_80
  · skip
    exact absurd h1 (by rw [wiC (by omega) (by omega)]; decide)
theorem kX8_ofCourse_b {p : Program} {l : Launch} {e : Env} {R : Room} {s : State} {m : MethodId} {args : Array Value} {below : List Frame} {meth : Method} {c : Code} {H : Heap} {locs : List Loc} {cells slots : Nat} {Q : State → Prop} {cc : ByteArray} {nL index pc : Nat} {own : String} {ls : Array Slot} {rest : List Value} {D : va_G} {K : Nat → ClassId} {a : Nat → Nat} {w n lap : Nat} {op mu ba la en : Nat → Nat} {pr : Nat → Option Nat} {sc : MSc} {ci : Nat} {wh : Int32} (S : CallFix p m c cc nL s args lw_tb own) (hI : PI D K (mW K a w n lap op mu ba la en pr sc) s H) (hG : GOK w n lap op mu ba la en pr) (hc : ci < n) (hw : wh.toInt < 0 ∨ 4 < wh.toInt) (hlink : Cond.methodLink own index yX8_ofCourse ∈ lw_tb) (hR : RO 2 R cells slots) (hsz : ls.size = nL) (hW : (rest.map fun v => v.category).sum ≤ 8) (hdg : decode cc pc = .ok (.invokevirtual index, 3)) (kk : W p l e R s m args below meth c H locs cells slots Q (F0 m (pc + 3) ls (.int ((-2)) :: rest))) : W p l e R s m args below meth c H locs cells slots Q (F0 m pc ls (.int wh :: .int (nI ci) :: .ref (a 0) :: rest)) :=
  kV (As := [.int (nI ci), .int wh]) (b := a 0) S (mX8_ofCourse_b l hG hc hw) hlink tw_698 tw_699 tw_50 tw_700 (by show _ ∧ _ ∧ _ = some 2; decide +kernel) (by decide) hR blP (piU hI) (va_recv hI.2 hI.1 (ci := 8) (q0 := 0) rfl rfl) hsz rfl hW hdg kk

set_option maxHeartbeats 4000000 in
set_option maxRecDepth 100000 in
theorem mX8_ofCourse_0 (l : Launch) {D : va_G} {K : Nat → ClassId} {a : Nat → Nat} {w n lap : Nat} {op mu ba la en : Nat → Nat} {pr : Nat → Option Nat} {sc : MSc} {ci : Nat} (hG : GOK w n lap op mu ba la en pr) (hc : ci < n) : Met l yX8_ofCourse (TWd yX8_ofCourse cX8_ofCourse 3 (some .int)) (rmk 2) (va_Pc [.ref (a 0), .int (nI ci), .int (nI 0)] (fun U => PI D K (mW K a w n lap op mu ba la en pr sc) U U.heap)) (QcRead (nI (op ci))) 0 0 (fun _ => False) := by
  refine mt_of (by decide +kernel) (Nat.le_of_ble_eq_true rfl) ?_
  intro p e s m below meth c S hr hlk hI ls hl
  have S : CallFix p m c cX8_ofCourse 3 s ([.ref (a 0), .int (nI ci), .int (nI 0)] : List Value).toArray lw_tb RX8 := S
  have hl : lv_has ls 3 [(0, .ref (a 0)), (1, .int (nI ci)), (2, .int (nI 0))] := hl
  obtain ⟨gw1, gw2, gn, gl1, gl2, gop, gmu, gba, gla, gen, gpr, gop2, gmu2, gba2, gla2, gme, gbe, gle, gee⟩ := id hG
  refine lv_aload_n S.1 S.2.1 dX8_ofCourse_0 rfl (lv_at hl 0 rfl) ?_
  refine lv_iload_n S.1 S.2.1 dX8_ofCourse_1 rfl (lv_at hl 1 rfl) ?_
  refine kX8_isCourse S hI hG tw_673 (rok (by decide)) hl.1 (Nat.le_of_ble_eq_true rfl) dX8_ofCourse_2 ?_
  refine ly_ifne (tgt := 10) S bI_e2 bI_e1 dX8_ofCourse_5 (by decide) (fun h1 => ?_) (fun h1 => ?_)
  · skip
    refine lv_iload_n S.1 S.2.1 dX8_ofCourse_10 rfl (lv_at hl 2 rfl) ?_
    refine lv_tableIn (tgt := 44) (off := 33) S.1 S.2.1 dX8_ofCourse_11 (by decide) (by decide) (by decide) (by decide) ?_
    refine lv_aload_n S.1 S.2.1 dX8_ofCourse_44 rfl (lv_at hl 0 rfl) ?_
    refine g8 S hI 0 rfl 2 (by decide) tw_609 rfl dX8_ofCourse_45 ?_
    refine lv_iload_n S.1 S.2.1 dX8_ofCourse_48 rfl (lv_at hl 1 rfl) ?_
    refine ly_iald (v := (nI (op ci))) S hI 1 rfl (by omega) (by decide) rfl dX8_ofCourse_49 ?_
    exact rt_i S hr hlk rfl dX8_ofCourse_50
  · skip
    exact absurd h1 (by rw [wiC (by omega) (by omega)]; decide)
theorem kX8_ofCourse_0 {p : Program} {l : Launch} {e : Env} {R : Room} {s : State} {m : MethodId} {args : Array Value} {below : List Frame} {meth : Method} {c : Code} {H : Heap} {locs : List Loc} {cells slots : Nat} {Q : State → Prop} {cc : ByteArray} {nL index pc : Nat} {own : String} {ls : Array Slot} {rest : List Value} {D : va_G} {K : Nat → ClassId} {a : Nat → Nat} {w n lap : Nat} {op mu ba la en : Nat → Nat} {pr : Nat → Option Nat} {sc : MSc} {ci : Nat} (S : CallFix p m c cc nL s args lw_tb own) (hI : PI D K (mW K a w n lap op mu ba la en pr sc) s H) (hG : GOK w n lap op mu ba la en pr) (hc : ci < n) (hlink : Cond.methodLink own index yX8_ofCourse ∈ lw_tb) (hR : RO 2 R cells slots) (hsz : ls.size = nL) (hW : (rest.map fun v => v.category).sum ≤ 8) (hdg : decode cc pc = .ok (.invokevirtual index, 3)) (kk : W p l e R s m args below meth c H locs cells slots Q (F0 m (pc + 3) ls (.int (nI (op ci)) :: rest))) : W p l e R s m args below meth c H locs cells slots Q (F0 m pc ls (.int (nI 0) :: .int (nI ci) :: .ref (a 0) :: rest)) :=
  kV (As := [.int (nI ci), .int (nI 0)]) (b := a 0) S (mX8_ofCourse_0 l hG hc) hlink tw_698 tw_699 tw_50 tw_700 (by show _ ∧ _ ∧ _ = some 2; decide +kernel) (by decide) hR blP (piU hI) (va_recv hI.2 hI.1 (ci := 8) (q0 := 0) rfl rfl) hsz rfl hW hdg kk

set_option maxHeartbeats 4000000 in
set_option maxRecDepth 100000 in
theorem mX8_ofCourse_1 (l : Launch) {D : va_G} {K : Nat → ClassId} {a : Nat → Nat} {w n lap : Nat} {op mu ba la en : Nat → Nat} {pr : Nat → Option Nat} {sc : MSc} {ci : Nat} (hG : GOK w n lap op mu ba la en pr) (hc : ci < n) : Met l yX8_ofCourse (TWd yX8_ofCourse cX8_ofCourse 3 (some .int)) (rmk 2) (va_Pc [.ref (a 0), .int (nI ci), .int (nI 1)] (fun U => PI D K (mW K a w n lap op mu ba la en pr sc) U U.heap)) (QcRead (nI (mu ci))) 0 0 (fun _ => False) := by
  refine mt_of (by decide +kernel) (Nat.le_of_ble_eq_true rfl) ?_
  intro p e s m below meth c S hr hlk hI ls hl
  have S : CallFix p m c cX8_ofCourse 3 s ([.ref (a 0), .int (nI ci), .int (nI 1)] : List Value).toArray lw_tb RX8 := S
  have hl : lv_has ls 3 [(0, .ref (a 0)), (1, .int (nI ci)), (2, .int (nI 1))] := hl
  obtain ⟨gw1, gw2, gn, gl1, gl2, gop, gmu, gba, gla, gen, gpr, gop2, gmu2, gba2, gla2, gme, gbe, gle, gee⟩ := id hG
  refine lv_aload_n S.1 S.2.1 dX8_ofCourse_0 rfl (lv_at hl 0 rfl) ?_
  refine lv_iload_n S.1 S.2.1 dX8_ofCourse_1 rfl (lv_at hl 1 rfl) ?_
  refine kX8_isCourse S hI hG tw_673 (rok (by decide)) hl.1 (Nat.le_of_ble_eq_true rfl) dX8_ofCourse_2 ?_
  refine ly_ifne (tgt := 10) S bI_e2 bI_e1 dX8_ofCourse_5 (by decide) (fun h1 => ?_) (fun h1 => ?_)
  · skip
    refine lv_iload_n S.1 S.2.1 dX8_ofCourse_10 rfl (lv_at hl 2 rfl) ?_
    refine lv_tableIn (tgt := 51) (off := 40) S.1 S.2.1 dX8_ofCourse_11 (by decide) (by decide) (by decide) (by decide) ?_
    refine lv_aload_n S.1 S.2.1 dX8_ofCourse_51 rfl (lv_at hl 0 rfl) ?_
    refine g8 S hI 0 rfl 3 (by decide) tw_610 rfl dX8_ofCourse_52 ?_
    refine lv_iload_n S.1 S.2.1 dX8_ofCourse_55 rfl (lv_at hl 1 rfl) ?_
    refine ly_iald (v := (nI (mu ci))) S hI 2 rfl (by omega) (by decide) rfl dX8_ofCourse_56 ?_
    exact rt_i S hr hlk rfl dX8_ofCourse_57
  · skip
    exact absurd h1 (by rw [wiC (by omega) (by omega)]; decide)
theorem kX8_ofCourse_1 {p : Program} {l : Launch} {e : Env} {R : Room} {s : State} {m : MethodId} {args : Array Value} {below : List Frame} {meth : Method} {c : Code} {H : Heap} {locs : List Loc} {cells slots : Nat} {Q : State → Prop} {cc : ByteArray} {nL index pc : Nat} {own : String} {ls : Array Slot} {rest : List Value} {D : va_G} {K : Nat → ClassId} {a : Nat → Nat} {w n lap : Nat} {op mu ba la en : Nat → Nat} {pr : Nat → Option Nat} {sc : MSc} {ci : Nat} (S : CallFix p m c cc nL s args lw_tb own) (hI : PI D K (mW K a w n lap op mu ba la en pr sc) s H) (hG : GOK w n lap op mu ba la en pr) (hc : ci < n) (hlink : Cond.methodLink own index yX8_ofCourse ∈ lw_tb) (hR : RO 2 R cells slots) (hsz : ls.size = nL) (hW : (rest.map fun v => v.category).sum ≤ 8) (hdg : decode cc pc = .ok (.invokevirtual index, 3)) (kk : W p l e R s m args below meth c H locs cells slots Q (F0 m (pc + 3) ls (.int (nI (mu ci)) :: rest))) : W p l e R s m args below meth c H locs cells slots Q (F0 m pc ls (.int (nI 1) :: .int (nI ci) :: .ref (a 0) :: rest)) :=
  kV (As := [.int (nI ci), .int (nI 1)]) (b := a 0) S (mX8_ofCourse_1 l hG hc) hlink tw_698 tw_699 tw_50 tw_700 (by show _ ∧ _ ∧ _ = some 2; decide +kernel) (by decide) hR blP (piU hI) (va_recv hI.2 hI.1 (ci := 8) (q0 := 0) rfl rfl) hsz rfl hW hdg kk

set_option maxHeartbeats 4000000 in
set_option maxRecDepth 100000 in
theorem mX8_ofCourse_2 (l : Launch) {D : va_G} {K : Nat → ClassId} {a : Nat → Nat} {w n lap : Nat} {op mu ba la en : Nat → Nat} {pr : Nat → Option Nat} {sc : MSc} {ci : Nat} (hG : GOK w n lap op mu ba la en pr) (hc : ci < n) : Met l yX8_ofCourse (TWd yX8_ofCourse cX8_ofCourse 3 (some .int)) (rmk 2) (va_Pc [.ref (a 0), .int (nI ci), .int (nI 2)] (fun U => PI D K (mW K a w n lap op mu ba la en pr sc) U U.heap)) (QcRead (nI (ba ci))) 0 0 (fun _ => False) := by
  refine mt_of (by decide +kernel) (Nat.le_of_ble_eq_true rfl) ?_
  intro p e s m below meth c S hr hlk hI ls hl
  have S : CallFix p m c cX8_ofCourse 3 s ([.ref (a 0), .int (nI ci), .int (nI 2)] : List Value).toArray lw_tb RX8 := S
  have hl : lv_has ls 3 [(0, .ref (a 0)), (1, .int (nI ci)), (2, .int (nI 2))] := hl
  obtain ⟨gw1, gw2, gn, gl1, gl2, gop, gmu, gba, gla, gen, gpr, gop2, gmu2, gba2, gla2, gme, gbe, gle, gee⟩ := id hG
  refine lv_aload_n S.1 S.2.1 dX8_ofCourse_0 rfl (lv_at hl 0 rfl) ?_
  refine lv_iload_n S.1 S.2.1 dX8_ofCourse_1 rfl (lv_at hl 1 rfl) ?_
  refine kX8_isCourse S hI hG tw_673 (rok (by decide)) hl.1 (Nat.le_of_ble_eq_true rfl) dX8_ofCourse_2 ?_
  refine ly_ifne (tgt := 10) S bI_e2 bI_e1 dX8_ofCourse_5 (by decide) (fun h1 => ?_) (fun h1 => ?_)
  · skip
    refine lv_iload_n S.1 S.2.1 dX8_ofCourse_10 rfl (lv_at hl 2 rfl) ?_
    refine lv_tableIn (tgt := 58) (off := 47) S.1 S.2.1 dX8_ofCourse_11 (by decide) (by decide) (by decide) (by decide) ?_
    refine lv_aload_n S.1 S.2.1 dX8_ofCourse_58 rfl (lv_at hl 0 rfl) ?_
    refine g8 S hI 0 rfl 4 (by decide) tw_611 rfl dX8_ofCourse_59 ?_
    refine lv_iload_n S.1 S.2.1 dX8_ofCourse_62 rfl (lv_at hl 1 rfl) ?_
    refine ly_iald (v := (nI (ba ci))) S hI 3 rfl (by omega) (by decide) rfl dX8_ofCourse_63 ?_
    exact rt_i S hr hlk rfl dX8_ofCourse_64
  · skip
    exact absurd h1 (by rw [wiC (by omega) (by omega)]; decide)
theorem kX8_ofCourse_2 {p : Program} {l : Launch} {e : Env} {R : Room} {s : State} {m : MethodId} {args : Array Value} {below : List Frame} {meth : Method} {c : Code} {H : Heap} {locs : List Loc} {cells slots : Nat} {Q : State → Prop} {cc : ByteArray} {nL index pc : Nat} {own : String} {ls : Array Slot} {rest : List Value} {D : va_G} {K : Nat → ClassId} {a : Nat → Nat} {w n lap : Nat} {op mu ba la en : Nat → Nat} {pr : Nat → Option Nat} {sc : MSc} {ci : Nat} (S : CallFix p m c cc nL s args lw_tb own) (hI : PI D K (mW K a w n lap op mu ba la en pr sc) s H) (hG : GOK w n lap op mu ba la en pr) (hc : ci < n) (hlink : Cond.methodLink own index yX8_ofCourse ∈ lw_tb) (hR : RO 2 R cells slots) (hsz : ls.size = nL) (hW : (rest.map fun v => v.category).sum ≤ 8) (hdg : decode cc pc = .ok (.invokevirtual index, 3)) (kk : W p l e R s m args below meth c H locs cells slots Q (F0 m (pc + 3) ls (.int (nI (ba ci)) :: rest))) : W p l e R s m args below meth c H locs cells slots Q (F0 m pc ls (.int (nI 2) :: .int (nI ci) :: .ref (a 0) :: rest)) :=
  kV (As := [.int (nI ci), .int (nI 2)]) (b := a 0) S (mX8_ofCourse_2 l hG hc) hlink tw_698 tw_699 tw_50 tw_700 (by show _ ∧ _ ∧ _ = some 2; decide +kernel) (by decide) hR blP (piU hI) (va_recv hI.2 hI.1 (ci := 8) (q0 := 0) rfl rfl) hsz rfl hW hdg kk

set_option maxHeartbeats 4000000 in
set_option maxRecDepth 100000 in
theorem mX8_ofCourse_3 (l : Launch) {D : va_G} {K : Nat → ClassId} {a : Nat → Nat} {w n lap : Nat} {op mu ba la en : Nat → Nat} {pr : Nat → Option Nat} {sc : MSc} {ci : Nat} (hG : GOK w n lap op mu ba la en pr) (hc : ci < n) : Met l yX8_ofCourse (TWd yX8_ofCourse cX8_ofCourse 3 (some .int)) (rmk 2) (va_Pc [.ref (a 0), .int (nI ci), .int (nI 3)] (fun U => PI D K (mW K a w n lap op mu ba la en pr sc) U U.heap)) (QcRead (nI (sumN (spT (op ci)) w))) 0 0 (fun _ => False) := by
  refine mt_of (by decide +kernel) (Nat.le_of_ble_eq_true rfl) ?_
  intro p e s m below meth c S hr hlk hI ls hl
  have S : CallFix p m c cX8_ofCourse 3 s ([.ref (a 0), .int (nI ci), .int (nI 3)] : List Value).toArray lw_tb RX8 := S
  have hl : lv_has ls 3 [(0, .ref (a 0)), (1, .int (nI ci)), (2, .int (nI 3))] := hl
  obtain ⟨gw1, gw2, gn, gl1, gl2, gop, gmu, gba, gla, gen, gpr, gop2, gmu2, gba2, gla2, gme, gbe, gle, gee⟩ := id hG
  refine lv_aload_n S.1 S.2.1 dX8_ofCourse_0 rfl (lv_at hl 0 rfl) ?_
  refine lv_iload_n S.1 S.2.1 dX8_ofCourse_1 rfl (lv_at hl 1 rfl) ?_
  refine kX8_isCourse S hI hG tw_673 (rok (by decide)) hl.1 (Nat.le_of_ble_eq_true rfl) dX8_ofCourse_2 ?_
  refine ly_ifne (tgt := 10) S bI_e2 bI_e1 dX8_ofCourse_5 (by decide) (fun h1 => ?_) (fun h1 => ?_)
  · skip
    refine lv_iload_n S.1 S.2.1 dX8_ofCourse_10 rfl (lv_at hl 2 rfl) ?_
    refine lv_tableIn (tgt := 65) (off := 54) S.1 S.2.1 dX8_ofCourse_11 (by decide) (by decide) (by decide) (by decide) ?_
    refine lv_aload_n S.1 S.2.1 dX8_ofCourse_65 rfl (lv_at hl 0 rfl) ?_
    refine lv_iload_n S.1 S.2.1 dX8_ofCourse_66 rfl (lv_at hl 1 rfl) ?_
    refine kX8_spansOf S hI hG (by omega) tw_701 (rok (by decide)) hl.1 (Nat.le_of_ble_eq_true rfl) dX8_ofCourse_67 ?_
    exact rt_i S hr hlk rfl dX8_ofCourse_70
  · skip
    exact absurd h1 (by rw [wiC (by omega) (by omega)]; decide)
theorem kX8_ofCourse_3 {p : Program} {l : Launch} {e : Env} {R : Room} {s : State} {m : MethodId} {args : Array Value} {below : List Frame} {meth : Method} {c : Code} {H : Heap} {locs : List Loc} {cells slots : Nat} {Q : State → Prop} {cc : ByteArray} {nL index pc : Nat} {own : String} {ls : Array Slot} {rest : List Value} {D : va_G} {K : Nat → ClassId} {a : Nat → Nat} {w n lap : Nat} {op mu ba la en : Nat → Nat} {pr : Nat → Option Nat} {sc : MSc} {ci : Nat} (S : CallFix p m c cc nL s args lw_tb own) (hI : PI D K (mW K a w n lap op mu ba la en pr sc) s H) (hG : GOK w n lap op mu ba la en pr) (hc : ci < n) (hlink : Cond.methodLink own index yX8_ofCourse ∈ lw_tb) (hR : RO 2 R cells slots) (hsz : ls.size = nL) (hW : (rest.map fun v => v.category).sum ≤ 8) (hdg : decode cc pc = .ok (.invokevirtual index, 3)) (kk : W p l e R s m args below meth c H locs cells slots Q (F0 m (pc + 3) ls (.int (nI (sumN (spT (op ci)) w)) :: rest))) : W p l e R s m args below meth c H locs cells slots Q (F0 m pc ls (.int (nI 3) :: .int (nI ci) :: .ref (a 0) :: rest)) :=
  kV (As := [.int (nI ci), .int (nI 3)]) (b := a 0) S (mX8_ofCourse_3 l hG hc) hlink tw_698 tw_699 tw_50 tw_700 (by show _ ∧ _ ∧ _ = some 2; decide +kernel) (by decide) hR blP (piU hI) (va_recv hI.2 hI.1 (ci := 8) (q0 := 0) rfl rfl) hsz rfl hW hdg kk

set_option maxHeartbeats 4000000 in
set_option maxRecDepth 100000 in
theorem mX8_ofCourse_4 (l : Launch) {D : va_G} {K : Nat → ClassId} {a : Nat → Nat} {w n lap : Nat} {op mu ba la en : Nat → Nat} {pr : Nat → Option Nat} {sc : MSc} {ci : Nat} (hG : GOK w n lap op mu ba la en pr) (hc : ci < n) : Met l yX8_ofCourse (TWd yX8_ofCourse cX8_ofCourse 3 (some .int)) (rmk 2) (va_Pc [.ref (a 0), .int (nI ci), .int (nI 4)] (fun U => PI D K (mW K a w n lap op mu ba la en pr sc) U U.heap)) (QcRead (nI (la ci))) 0 0 (fun _ => False) := by
  refine mt_of (by decide +kernel) (Nat.le_of_ble_eq_true rfl) ?_
  intro p e s m below meth c S hr hlk hI ls hl
  have S : CallFix p m c cX8_ofCourse 3 s ([.ref (a 0), .int (nI ci), .int (nI 4)] : List Value).toArray lw_tb RX8 := S
  have hl : lv_has ls 3 [(0, .ref (a 0)), (1, .int (nI ci)), (2, .int (nI 4))] := hl
  obtain ⟨gw1, gw2, gn, gl1, gl2, gop, gmu, gba, gla, gen, gpr, gop2, gmu2, gba2, gla2, gme, gbe, gle, gee⟩ := id hG
  refine lv_aload_n S.1 S.2.1 dX8_ofCourse_0 rfl (lv_at hl 0 rfl) ?_
  refine lv_iload_n S.1 S.2.1 dX8_ofCourse_1 rfl (lv_at hl 1 rfl) ?_
  refine kX8_isCourse S hI hG tw_673 (rok (by decide)) hl.1 (Nat.le_of_ble_eq_true rfl) dX8_ofCourse_2 ?_
  refine ly_ifne (tgt := 10) S bI_e2 bI_e1 dX8_ofCourse_5 (by decide) (fun h1 => ?_) (fun h1 => ?_)
  · skip
    refine lv_iload_n S.1 S.2.1 dX8_ofCourse_10 rfl (lv_at hl 2 rfl) ?_
    refine lv_tableIn (tgt := 71) (off := 60) S.1 S.2.1 dX8_ofCourse_11 (by decide) (by decide) (by decide) (by decide) ?_
    refine lv_aload_n S.1 S.2.1 dX8_ofCourse_71 rfl (lv_at hl 0 rfl) ?_
    refine g8 S hI 0 rfl 5 (by decide) tw_612 rfl dX8_ofCourse_72 ?_
    refine lv_iload_n S.1 S.2.1 dX8_ofCourse_75 rfl (lv_at hl 1 rfl) ?_
    refine ly_iald (v := (nI (la ci))) S hI 4 rfl (by omega) (by decide) rfl dX8_ofCourse_76 ?_
    exact rt_i S hr hlk rfl dX8_ofCourse_77
  · skip
    exact absurd h1 (by rw [wiC (by omega) (by omega)]; decide)
theorem kX8_ofCourse_4 {p : Program} {l : Launch} {e : Env} {R : Room} {s : State} {m : MethodId} {args : Array Value} {below : List Frame} {meth : Method} {c : Code} {H : Heap} {locs : List Loc} {cells slots : Nat} {Q : State → Prop} {cc : ByteArray} {nL index pc : Nat} {own : String} {ls : Array Slot} {rest : List Value} {D : va_G} {K : Nat → ClassId} {a : Nat → Nat} {w n lap : Nat} {op mu ba la en : Nat → Nat} {pr : Nat → Option Nat} {sc : MSc} {ci : Nat} (S : CallFix p m c cc nL s args lw_tb own) (hI : PI D K (mW K a w n lap op mu ba la en pr sc) s H) (hG : GOK w n lap op mu ba la en pr) (hc : ci < n) (hlink : Cond.methodLink own index yX8_ofCourse ∈ lw_tb) (hR : RO 2 R cells slots) (hsz : ls.size = nL) (hW : (rest.map fun v => v.category).sum ≤ 8) (hdg : decode cc pc = .ok (.invokevirtual index, 3)) (kk : W p l e R s m args below meth c H locs cells slots Q (F0 m (pc + 3) ls (.int (nI (la ci)) :: rest))) : W p l e R s m args below meth c H locs cells slots Q (F0 m pc ls (.int (nI 4) :: .int (nI ci) :: .ref (a 0) :: rest)) :=
  kV (As := [.int (nI ci), .int (nI 4)]) (b := a 0) S (mX8_ofCourse_4 l hG hc) hlink tw_698 tw_699 tw_50 tw_700 (by show _ ∧ _ ∧ _ = some 2; decide +kernel) (by decide) hR blP (piU hI) (va_recv hI.2 hI.1 (ci := 8) (q0 := 0) rfl rfl) hsz rfl hW hdg kk

set_option maxHeartbeats 4000000 in
set_option maxRecDepth 100000 in
theorem mX8_laidCost (l : Launch) {D : va_G} {K : Nat → ClassId} {a : Nat → Nat} {w n lap : Nat} {op mu ba la en : Nat → Nat} {pr : Nat → Option Nat} {sc : MSc} (hG : GOK w n lap op mu ba la en pr) : Met l yX8_laidCost (TWd yX8_laidCost cX8_laidCost 3 (some .int)) (rmk 4) (va_Pc [.ref (a 0)] (fun U => PI D K (mW K a w n lap op mu ba la en pr sc) U U.heap)) (QcRead (nI (sumN (fun q => coF pr w (op q) (la q)) n))) 0 0 (fun _ => False) := by
  refine mt_of (by decide +kernel) (Nat.le_of_ble_eq_true rfl) ?_
  intro p e s m below meth c S hr hlk hI ls hl
  have S : CallFix p m c cX8_laidCost 3 s ([.ref (a 0)] : List Value).toArray lw_tb RX8 := S
  have hl : lv_has ls 3 [(0, .ref (a 0))] := hl
  obtain ⟨gw1, gw2, gn, gl1, gl2, gop, gmu, gba, gla, gen, gpr, gop2, gmu2, gba2, gla2, gme, gbe, gle, gee⟩ := id hG
  refine lv_iconst (v := nI 0) S.1 S.2.1 dX8_laidCost_0 (by decide) ?_
  refine ly_top (z := (nI (sumN (fun q => coF pr w (op q) (la q)) 0))) rfl ?_
  refine lv_istore_n (lv' := [(1, .int (nI (sumN (fun q => coF pr w (op q) (la q)) 0))), (0, .ref (a 0))]) S.1 S.2.1 dX8_laidCost_1 rfl hl (by decide) rfl (fun ls hl => ?_)
  refine lv_iconst (v := nI 0) S.1 S.2.1 dX8_laidCost_2 (by decide) ?_
  refine lv_istore_n (lv' := [(2, .int (nI 0)), (1, .int (nI (sumN (fun q => coF pr w (op q) (la q)) 0))), (0, .ref (a 0))]) S.1 S.2.1 dX8_laidCost_3 rfl hl (by decide) rfl (fun ls hl => ?_)
  have L4 : ∀ (f4 : Nat) (k : Nat), (k ≤ n) → n - k < f4 → ∀ (ls : Array Slot), lv_has ls 3 [(0, .ref (a 0)), (1, .int (nI (sumN (fun q => coF pr w (op q) (la q)) k))), (2, .int (nI k))] → W p l e (rmk 4) s m ([.ref (a 0)] : List Value).toArray below meth c s.heap [] 0 0 (MQ below (QcRead (nI (sumN (fun q => coF pr w (op q) (la q)) n))) ([.ref (a 0)] : List Value).toArray s 0 0 (fun _ => False)) (F0 m 4 ls []) := by
    intro f4
    induction f4 with
    | zero =>
      intro k i2 hm
      exact absurd hm (Nat.not_lt_zero _)
    | succ f4 ih4 =>
      intro k i2 hm4 ls hl
      have o1 := gla k
      refine lv_iload_n S.1 S.2.1 dX8_laidCost_4 rfl (lv_at hl 2 rfl) ?_
      refine lv_aload_n S.1 S.2.1 dX8_laidCost_5 rfl (lv_at hl 0 rfl) ?_
      refine g8 S hI 0 rfl 1 (by decide) tw_608 rfl dX8_laidCost_6 ?_
      refine ly_cmge (tgt := 32) S (nI_le1 (by omega) (by omega)) (nI_le2 (by omega) (by omega)) dX8_laidCost_9 (by decide) (fun h1 => ?_) (fun h1 => ?_)
      · skip
        refine lv_iload_n S.1 S.2.1 dX8_laidCost_32 rfl (lv_at hl 1 rfl) ?_
        exact rt_i S hr hlk (by rw [show k = n by omega]) dX8_laidCost_33
      · skip
        refine lv_iload_n S.1 S.2.1 dX8_laidCost_12 rfl (lv_at hl 1 rfl) ?_
        refine lv_aload_n S.1 S.2.1 dX8_laidCost_13 rfl (lv_at hl 0 rfl) ?_
        refine lv_iload_n S.1 S.2.1 dX8_laidCost_14 rfl (lv_at hl 2 rfl) ?_
        refine lv_aload_n S.1 S.2.1 dX8_laidCost_15 rfl (lv_at hl 0 rfl) ?_
        refine g8 S hI 0 rfl 5 (by decide) tw_612 rfl dX8_laidCost_16 ?_
        refine lv_iload_n S.1 S.2.1 dX8_laidCost_19 rfl (lv_at hl 2 rfl) ?_
        refine ly_iald (v := (nI (la k))) S hI 4 rfl (by omega) (by decide) rfl dX8_laidCost_20 ?_
        refine kX8_costOf S hI hG (by omega) (by omega) tw_768 (rok (by decide)) hl.1 (Nat.le_of_ble_eq_true rfl) dX8_laidCost_21 ?_
        have b2 : coF pr w (op k) (la k) ≤ 1000 := coF_le gpr gw2 _ _
        refine lv_iadd S.1 S.2.1 dX8_laidCost_24 ?_
        refine ly_top (z := nI ((sumN (fun q => coF pr w (op q) (la q)) k) + (coF pr w (op k) (la k)))) (nI_add _ _) ?_
        refine ly_top (z := (nI (sumN (fun q => coF pr w (op q) (la q)) (k + 1)))) rfl ?_
        refine lv_istore_n (lv' := [(1, .int (nI (sumN (fun q => coF pr w (op q) (la q)) (k + 1)))), (0, .ref (a 0)), (2, .int (nI k))]) S.1 S.2.1 dX8_laidCost_25 rfl hl (by decide) rfl (fun ls hl => ?_)
        refine lv_iinc (v := nI (k + 1)) (lv' := [(2, .int (nI (k + 1))), (1, .int (nI (sumN (fun q => coF pr w (op q) (la q)) (k + 1)))), (0, .ref (a 0))]) S.1 S.2.1 dX8_laidCost_26 hl (k := 2) rfl (nJ_in _ _) (by decide) rfl (fun ls hl => ?_)
        refine lv_goto (tgt := 4) S.1 S.2.1 dX8_laidCost_29 (by decide) ?_
        exact ih4 (k + 1) (by omega) (by omega) _ (lv_sub hl [2, 1, 0] rfl)
  exact L4 _ 0 (by omega) (Nat.lt_succ_self _) _ (lv_sub hl [2, 1, 0] rfl)
theorem kX8_laidCost {p : Program} {l : Launch} {e : Env} {R : Room} {s : State} {m : MethodId} {args : Array Value} {below : List Frame} {meth : Method} {c : Code} {H : Heap} {locs : List Loc} {cells slots : Nat} {Q : State → Prop} {cc : ByteArray} {nL index pc : Nat} {own : String} {ls : Array Slot} {rest : List Value} {D : va_G} {K : Nat → ClassId} {a : Nat → Nat} {w n lap : Nat} {op mu ba la en : Nat → Nat} {pr : Nat → Option Nat} {sc : MSc} (S : CallFix p m c cc nL s args lw_tb own) (hI : PI D K (mW K a w n lap op mu ba la en pr sc) s H) (hG : GOK w n lap op mu ba la en pr) (hlink : Cond.methodLink own index yX8_laidCost ∈ lw_tb) (hR : RO 4 R cells slots) (hsz : ls.size = nL) (hW : (rest.map fun v => v.category).sum ≤ 8) (hdg : decode cc pc = .ok (.invokevirtual index, 3)) (kk : W p l e R s m args below meth c H locs cells slots Q (F0 m (pc + 3) ls (.int (nI (sumN (fun q => coF pr w (op q) (la q)) n)) :: rest))) : W p l e R s m args below meth c H locs cells slots Q (F0 m pc ls (.ref (a 0) :: rest)) :=
  kV (As := []) (b := a 0) S (mX8_laidCost l hG) hlink tw_818 tw_36 tw_50 tw_819 (by show _ ∧ _ ∧ _ = some 0; decide +kernel) (by decide) hR blP (piU hI) (va_recv hI.2 hI.1 (ci := 8) (q0 := 0) rfl rfl) hsz rfl hW hdg kk

set_option maxHeartbeats 4000000 in
set_option maxRecDepth 100000 in
theorem mX8_cost (l : Launch) {D : va_G} {K : Nat → ClassId} {a : Nat → Nat} {w n lap : Nat} {op mu ba la en : Nat → Nat} {pr : Nat → Option Nat} {sc : MSc} (hG : GOK w n lap op mu ba la en pr) : Met l yX8_cost (TWd yX8_cost cX8_cost 1 (some .int)) (rmk 5) (va_Pc [.ref (a 0)] (fun U => PI D K (mW K a w n lap op mu ba la en pr sc) U U.heap)) (QcRead (nI (sumN (fun q => coF pr w (op q) (la q)) n))) 0 0 (fun _ => False) := by
  refine mt_of (by decide +kernel) (Nat.le_of_ble_eq_true rfl) ?_
  intro p e s m below meth c S hr hlk hI ls hl
  have S : CallFix p m c cX8_cost 1 s ([.ref (a 0)] : List Value).toArray lw_tb RX8 := S
  have hl : lv_has ls 1 [(0, .ref (a 0))] := hl
  obtain ⟨gw1, gw2, gn, gl1, gl2, gop, gmu, gba, gla, gen, gpr, gop2, gmu2, gba2, gla2, gme, gbe, gle, gee⟩ := id hG
  refine lv_aload_n S.1 S.2.1 dX8_cost_0 rfl (lv_at hl 0 rfl) ?_
  refine kX8_laidCost S hI hG tw_816 (rok (by decide)) hl.1 (Nat.le_of_ble_eq_true rfl) dX8_cost_1 ?_
  exact rt_i S hr hlk rfl dX8_cost_4
theorem kX8_cost {p : Program} {l : Launch} {e : Env} {R : Room} {s : State} {m : MethodId} {args : Array Value} {below : List Frame} {meth : Method} {c : Code} {H : Heap} {locs : List Loc} {cells slots : Nat} {Q : State → Prop} {cc : ByteArray} {nL index pc : Nat} {own : String} {ls : Array Slot} {rest : List Value} {D : va_G} {K : Nat → ClassId} {a : Nat → Nat} {w n lap : Nat} {op mu ba la en : Nat → Nat} {pr : Nat → Option Nat} {sc : MSc} (S : CallFix p m c cc nL s args lw_tb own) (hI : PI D K (mW K a w n lap op mu ba la en pr sc) s H) (hG : GOK w n lap op mu ba la en pr) (hlink : Cond.methodLink own index yX8_cost ∈ lw_tb) (hR : RO 5 R cells slots) (hsz : ls.size = nL) (hW : (rest.map fun v => v.category).sum ≤ 8) (hdg : decode cc pc = .ok (.invokevirtual index, 3)) (kk : W p l e R s m args below meth c H locs cells slots Q (F0 m (pc + 3) ls (.int (nI (sumN (fun q => coF pr w (op q) (la q)) n)) :: rest))) : W p l e R s m args below meth c H locs cells slots Q (F0 m pc ls (.ref (a 0) :: rest)) :=
  kV (As := []) (b := a 0) S (mX8_cost l hG) hlink tw_829 tw_830 tw_50 tw_831 (by show _ ∧ _ ∧ _ = some 0; decide +kernel) (by decide) hR blP (piU hI) (va_recv hI.2 hI.1 (ci := 8) (q0 := 0) rfl rfl) hsz rfl hW hdg kk

set_option maxHeartbeats 4000000 in
set_option maxRecDepth 100000 in
theorem mX8_laidPieces (l : Launch) {D : va_G} {K : Nat → ClassId} {a : Nat → Nat} {w n lap : Nat} {op mu ba la en : Nat → Nat} {pr : Nat → Option Nat} {sc : MSc} {L : Nat} (hG : GOK w n lap op mu ba la en pr) (hL : L < 2 ^ 31) : Met l yX8_laidPieces (TWd yX8_laidPieces cX8_laidPieces 4 (some .int)) (rmk 4) (va_Pc [.ref (a 0), .int (nI L)] (fun U => PI D K (mW K a w n lap op mu ba la en pr sc) U U.heap)) (QcRead (nI (sumN (fun q => pcF w (op q) (la q) L) n))) 0 0 (fun _ => False) := by
  refine mt_of (by decide +kernel) (Nat.le_of_ble_eq_true rfl) ?_
  intro p e s m below meth c S hr hlk hI ls hl
  have S : CallFix p m c cX8_laidPieces 4 s ([.ref (a 0), .int (nI L)] : List Value).toArray lw_tb RX8 := S
  have hl : lv_has ls 4 [(0, .ref (a 0)), (1, .int (nI L))] := hl
  obtain ⟨gw1, gw2, gn, gl1, gl2, gop, gmu, gba, gla, gen, gpr, gop2, gmu2, gba2, gla2, gme, gbe, gle, gee⟩ := id hG
  refine lv_iconst (v := nI 0) S.1 S.2.1 dX8_laidPieces_0 (by decide) ?_
  refine ly_top (z := (nI (sumN (fun q => pcF w (op q) (la q) L) 0))) rfl ?_
  refine lv_istore_n (lv' := [(2, .int (nI (sumN (fun q => pcF w (op q) (la q) L) 0))), (0, .ref (a 0)), (1, .int (nI L))]) S.1 S.2.1 dX8_laidPieces_1 rfl hl (by decide) rfl (fun ls hl => ?_)
  refine lv_iconst (v := nI 0) S.1 S.2.1 dX8_laidPieces_2 (by decide) ?_
  refine lv_istore_n (lv' := [(3, .int (nI 0)), (2, .int (nI (sumN (fun q => pcF w (op q) (la q) L) 0))), (0, .ref (a 0)), (1, .int (nI L))]) S.1 S.2.1 dX8_laidPieces_3 rfl hl (by decide) rfl (fun ls hl => ?_)
  have L4 : ∀ (f4 : Nat) (k : Nat), (k ≤ n) → n - k < f4 → ∀ (ls : Array Slot), lv_has ls 4 [(0, .ref (a 0)), (1, .int (nI L)), (2, .int (nI (sumN (fun q => pcF w (op q) (la q) L) k))), (3, .int (nI k))] → W p l e (rmk 4) s m ([.ref (a 0), .int (nI L)] : List Value).toArray below meth c s.heap [] 0 0 (MQ below (QcRead (nI (sumN (fun q => pcF w (op q) (la q) L) n))) ([.ref (a 0), .int (nI L)] : List Value).toArray s 0 0 (fun _ => False)) (F0 m 4 ls []) := by
    intro f4
    induction f4 with
    | zero =>
      intro k i2 hm
      exact absurd hm (Nat.not_lt_zero _)
    | succ f4 ih4 =>
      intro k i2 hm4 ls hl
      have o1 := gla k
      refine lv_iload_n S.1 S.2.1 dX8_laidPieces_4 rfl (lv_at hl 3 rfl) ?_
      refine lv_aload_n S.1 S.2.1 dX8_laidPieces_5 rfl (lv_at hl 0 rfl) ?_
      refine g8 S hI 0 rfl 1 (by decide) tw_608 rfl dX8_laidPieces_6 ?_
      refine ly_cmge (tgt := 33) S (nI_le1 (by omega) (by omega)) (nI_le2 (by omega) (by omega)) dX8_laidPieces_9 (by decide) (fun h1 => ?_) (fun h1 => ?_)
      · skip
        refine lv_iload_n S.1 S.2.1 dX8_laidPieces_33 rfl (lv_at hl 2 rfl) ?_
        exact rt_i S hr hlk (by rw [show k = n by omega]) dX8_laidPieces_34
      · skip
        refine lv_iload_n S.1 S.2.1 dX8_laidPieces_12 rfl (lv_at hl 2 rfl) ?_
        refine lv_aload_n S.1 S.2.1 dX8_laidPieces_13 rfl (lv_at hl 0 rfl) ?_
        refine lv_iload_n S.1 S.2.1 dX8_laidPieces_14 rfl (lv_at hl 3 rfl) ?_
        refine lv_aload_n S.1 S.2.1 dX8_laidPieces_15 rfl (lv_at hl 0 rfl) ?_
        refine g8 S hI 0 rfl 5 (by decide) tw_612 rfl dX8_laidPieces_16 ?_
        refine lv_iload_n S.1 S.2.1 dX8_laidPieces_19 rfl (lv_at hl 3 rfl) ?_
        refine ly_iald (v := (nI (la k))) S hI 4 rfl (by omega) (by decide) rfl dX8_laidPieces_20 ?_
        refine lv_iload_n S.1 S.2.1 dX8_laidPieces_21 rfl (lv_at hl 1 rfl) ?_
        refine kX8_piecesIn S hI hG (by omega) (by omega) (by omega) tw_792 (rok (by decide)) hl.1 (Nat.le_of_ble_eq_true rfl) dX8_laidPieces_22 ?_
        have b2 : pcF w (op k) (la k) L ≤ 10 := pcF_le gw2 _ _ _
        refine lv_iadd S.1 S.2.1 dX8_laidPieces_25 ?_
        refine ly_top (z := nI ((sumN (fun q => pcF w (op q) (la q) L) k) + (pcF w (op k) (la k) L))) (nI_add _ _) ?_
        refine ly_top (z := (nI (sumN (fun q => pcF w (op q) (la q) L) (k + 1)))) rfl ?_
        refine lv_istore_n (lv' := [(2, .int (nI (sumN (fun q => pcF w (op q) (la q) L) (k + 1)))), (0, .ref (a 0)), (1, .int (nI L)), (3, .int (nI k))]) S.1 S.2.1 dX8_laidPieces_26 rfl hl (by decide) rfl (fun ls hl => ?_)
        refine lv_iinc (v := nI (k + 1)) (lv' := [(3, .int (nI (k + 1))), (2, .int (nI (sumN (fun q => pcF w (op q) (la q) L) (k + 1)))), (0, .ref (a 0)), (1, .int (nI L))]) S.1 S.2.1 dX8_laidPieces_27 hl (k := 3) rfl (nJ_in _ _) (by decide) rfl (fun ls hl => ?_)
        refine lv_goto (tgt := 4) S.1 S.2.1 dX8_laidPieces_30 (by decide) ?_
        exact ih4 (k + 1) (by omega) (by omega) _ (lv_sub hl [2, 3, 1, 0] rfl)
  exact L4 _ 0 (by omega) (Nat.lt_succ_self _) _ (lv_sub hl [2, 3, 1, 0] rfl)
theorem kX8_laidPieces {p : Program} {l : Launch} {e : Env} {R : Room} {s : State} {m : MethodId} {args : Array Value} {below : List Frame} {meth : Method} {c : Code} {H : Heap} {locs : List Loc} {cells slots : Nat} {Q : State → Prop} {cc : ByteArray} {nL index pc : Nat} {own : String} {ls : Array Slot} {rest : List Value} {D : va_G} {K : Nat → ClassId} {a : Nat → Nat} {w n lap : Nat} {op mu ba la en : Nat → Nat} {pr : Nat → Option Nat} {sc : MSc} {L : Nat} (S : CallFix p m c cc nL s args lw_tb own) (hI : PI D K (mW K a w n lap op mu ba la en pr sc) s H) (hG : GOK w n lap op mu ba la en pr) (hL : L < 2 ^ 31) (hlink : Cond.methodLink own index yX8_laidPieces ∈ lw_tb) (hR : RO 4 R cells slots) (hsz : ls.size = nL) (hW : (rest.map fun v => v.category).sum ≤ 8) (hdg : decode cc pc = .ok (.invokevirtual index, 3)) (kk : W p l e R s m args below meth c H locs cells slots Q (F0 m (pc + 3) ls (.int (nI (sumN (fun q => pcF w (op q) (la q) L) n)) :: rest))) : W p l e R s m args below meth c H locs cells slots Q (F0 m pc ls (.int (nI L) :: .ref (a 0) :: rest)) :=
  kV (As := [.int (nI L)]) (b := a 0) S (mX8_laidPieces l hG hL) hlink tw_838 tw_38 tw_50 tw_839 (by show _ ∧ _ ∧ _ = some 1; decide +kernel) (by decide) hR blP (piU hI) (va_recv hI.2 hI.1 (ci := 8) (q0 := 0) rfl rfl) hsz rfl hW hdg kk

set_option maxHeartbeats 4000000 in
set_option maxRecDepth 100000 in
theorem mX8_pieces_a (l : Launch) {D : va_G} {K : Nat → ClassId} {a : Nat → Nat} {w n lap : Nat} {op mu ba la en : Nat → Nat} {pr : Nat → Option Nat} {sc : MSc} {v : Int32} (hG : GOK w n lap op mu ba la en pr) (hv : wiI v (nI 1) (nI 10) = false) : Met l yX8_pieces (TWd yX8_pieces cX8_pieces 2 (some .int)) (rmk 5) (va_Pc [.ref (a 0), .int v] (fun U => PI D K (mW K a w n lap op mu ba la en pr sc) U U.heap)) (QcRead ((-2))) 0 0 (fun _ => False) := by
  refine mt_of (by decide +kernel) (Nat.le_of_ble_eq_true rfl) ?_
  intro p e s m below meth c S hr hlk hI ls hl
  have S : CallFix p m c cX8_pieces 2 s ([.ref (a 0), .int v] : List Value).toArray lw_tb RX8 := S
  have hl : lv_has ls 2 [(0, .ref (a 0)), (1, .int v)] := hl
  obtain ⟨gw1, gw2, gn, gl1, gl2, gop, gmu, gba, gla, gen, gpr, gop2, gmu2, gba2, gla2, gme, gbe, gle, gee⟩ := id hG
  refine lv_iload_n S.1 S.2.1 dX8_pieces_0 rfl (lv_at hl 1 rfl) ?_
  refine lv_iconst (v := nI 1) S.1 S.2.1 dX8_pieces_1 (by decide) ?_
  refine lv_bipush (v := nI 10) S.1 S.2.1 dX8_pieces_2 (by decide) ?_
  refine kX8_within S  tw_658 (rok (by decide)) hl.1 (Nat.le_of_ble_eq_true rfl) dX8_pieces_4 ?_
  refine ly_ifeq (tgt := 18) S bI_e1 bI_e2 dX8_pieces_7 (by decide) (fun h1 => ?_) (fun h1 => ?_)
  · skip
    refine lv_bipush (v := (-2)) S.1 S.2.1 dX8_pieces_18 (by decide) ?_
    exact rt_i S hr hlk rfl dX8_pieces_20
  · skip
    exact absurd h1 (by rw [hv]; decide)
theorem kX8_pieces_a {p : Program} {l : Launch} {e : Env} {R : Room} {s : State} {m : MethodId} {args : Array Value} {below : List Frame} {meth : Method} {c : Code} {H : Heap} {locs : List Loc} {cells slots : Nat} {Q : State → Prop} {cc : ByteArray} {nL index pc : Nat} {own : String} {ls : Array Slot} {rest : List Value} {D : va_G} {K : Nat → ClassId} {a : Nat → Nat} {w n lap : Nat} {op mu ba la en : Nat → Nat} {pr : Nat → Option Nat} {sc : MSc} {v : Int32} (S : CallFix p m c cc nL s args lw_tb own) (hI : PI D K (mW K a w n lap op mu ba la en pr sc) s H) (hG : GOK w n lap op mu ba la en pr) (hv : wiI v (nI 1) (nI 10) = false) (hlink : Cond.methodLink own index yX8_pieces ∈ lw_tb) (hR : RO 5 R cells slots) (hsz : ls.size = nL) (hW : (rest.map fun v => v.category).sum ≤ 8) (hdg : decode cc pc = .ok (.invokevirtual index, 3)) (kk : W p l e R s m args below meth c H locs cells slots Q (F0 m (pc + 3) ls (.int ((-2)) :: rest))) : W p l e R s m args below meth c H locs cells slots Q (F0 m pc ls (.int v :: .ref (a 0) :: rest)) :=
  kV (As := [.int v]) (b := a 0) S (mX8_pieces_a l hG hv) hlink tw_833 tw_834 tw_50 tw_835 (by show _ ∧ _ ∧ _ = some 1; decide +kernel) (by decide) hR blP (piU hI) (va_recv hI.2 hI.1 (ci := 8) (q0 := 0) rfl rfl) hsz rfl hW hdg kk

set_option maxHeartbeats 4000000 in
set_option maxRecDepth 100000 in
theorem mX8_pieces_b (l : Launch) {D : va_G} {K : Nat → ClassId} {a : Nat → Nat} {w n lap : Nat} {op mu ba la en : Nat → Nat} {pr : Nat → Option Nat} {sc : MSc} {L : Nat} (hG : GOK w n lap op mu ba la en pr) (h1 : 1 ≤ L) (h2 : L ≤ 10) : Met l yX8_pieces (TWd yX8_pieces cX8_pieces 2 (some .int)) (rmk 5) (va_Pc [.ref (a 0), .int (nI L)] (fun U => PI D K (mW K a w n lap op mu ba la en pr sc) U U.heap)) (QcRead (nI (sumN (fun q => pcF w (op q) (la q) L) n))) 0 0 (fun _ => False) := by
  refine mt_of (by decide +kernel) (Nat.le_of_ble_eq_true rfl) ?_
  intro p e s m below meth c S hr hlk hI ls hl
  have S : CallFix p m c cX8_pieces 2 s ([.ref (a 0), .int (nI L)] : List Value).toArray lw_tb RX8 := S
  have hl : lv_has ls 2 [(0, .ref (a 0)), (1, .int (nI L))] := hl
  obtain ⟨gw1, gw2, gn, gl1, gl2, gop, gmu, gba, gla, gen, gpr, gop2, gmu2, gba2, gla2, gme, gbe, gle, gee⟩ := id hG
  refine lv_iload_n S.1 S.2.1 dX8_pieces_0 rfl (lv_at hl 1 rfl) ?_
  refine lv_iconst (v := nI 1) S.1 S.2.1 dX8_pieces_1 (by decide) ?_
  refine lv_bipush (v := nI 10) S.1 S.2.1 dX8_pieces_2 (by decide) ?_
  refine kX8_within S  tw_658 (rok (by decide)) hl.1 (Nat.le_of_ble_eq_true rfl) dX8_pieces_4 ?_
  refine ly_ifeq (tgt := 18) S bI_e1 bI_e2 dX8_pieces_7 (by decide) (fun h1 => ?_) (fun h1 => ?_)
  · skip
    exact absurd h1 (by rw [wiN (by omega) (by omega) (by omega)]; decide)
  · skip
    refine lv_aload_n S.1 S.2.1 dX8_pieces_10 rfl (lv_at hl 0 rfl) ?_
    refine lv_iload_n S.1 S.2.1 dX8_pieces_11 rfl (lv_at hl 1 rfl) ?_
    refine kX8_laidPieces S hI hG (by omega) tw_836 (rok (by decide)) hl.1 (Nat.le_of_ble_eq_true rfl) dX8_pieces_12 ?_
    have b2 : sumN (fun q => pcF w (op q) (la q) L) n ≤ 80 := lp_le gw2 gn
    refine lv_goto (tgt := 20) S.1 S.2.1 dX8_pieces_15 (by decide) ?_
    exact rt_i S hr hlk rfl dX8_pieces_20
theorem kX8_pieces_b {p : Program} {l : Launch} {e : Env} {R : Room} {s : State} {m : MethodId} {args : Array Value} {below : List Frame} {meth : Method} {c : Code} {H : Heap} {locs : List Loc} {cells slots : Nat} {Q : State → Prop} {cc : ByteArray} {nL index pc : Nat} {own : String} {ls : Array Slot} {rest : List Value} {D : va_G} {K : Nat → ClassId} {a : Nat → Nat} {w n lap : Nat} {op mu ba la en : Nat → Nat} {pr : Nat → Option Nat} {sc : MSc} {L : Nat} (S : CallFix p m c cc nL s args lw_tb own) (hI : PI D K (mW K a w n lap op mu ba la en pr sc) s H) (hG : GOK w n lap op mu ba la en pr) (h1 : 1 ≤ L) (h2 : L ≤ 10) (hlink : Cond.methodLink own index yX8_pieces ∈ lw_tb) (hR : RO 5 R cells slots) (hsz : ls.size = nL) (hW : (rest.map fun v => v.category).sum ≤ 8) (hdg : decode cc pc = .ok (.invokevirtual index, 3)) (kk : W p l e R s m args below meth c H locs cells slots Q (F0 m (pc + 3) ls (.int (nI (sumN (fun q => pcF w (op q) (la q) L) n)) :: rest))) : W p l e R s m args below meth c H locs cells slots Q (F0 m pc ls (.int (nI L) :: .ref (a 0) :: rest)) :=
  kV (As := [.int (nI L)]) (b := a 0) S (mX8_pieces_b l hG h1 h2) hlink tw_833 tw_834 tw_50 tw_835 (by show _ ∧ _ ∧ _ = some 1; decide +kernel) (by decide) hR blP (piU hI) (va_recv hI.2 hI.1 (ci := 8) (q0 := 0) rfl rfl) hsz rfl hW hdg kk

set_option maxHeartbeats 4000000 in
set_option maxRecDepth 100000 in
theorem mX8_piece_a (l : Launch) {D : va_G} {K : Nat → ClassId} {a : Nat → Nat} {w n lap : Nat} {op mu ba la en : Nat → Nat} {pr : Nat → Option Nat} {sc : MSc} {v : Int32} {z : Int32} (hG : GOK w n lap op mu ba la en pr) (hv : wiI v 0 (nI n - 1) = false) : Met l yX8_piece (TWd yX8_piece cX8_piece 3 (some .int)) (rmk 3) (va_Pc [.ref (a 0), .int v, .int z] (fun U => PI D K (mW K a w n lap op mu ba la en pr sc) U U.heap)) (QcRead ((-1))) 0 0 (fun _ => False) := by
  refine mt_of (by decide +kernel) (Nat.le_of_ble_eq_true rfl) ?_
  intro p e s m below meth c S hr hlk hI ls hl
  have S : CallFix p m c cX8_piece 3 s ([.ref (a 0), .int v, .int z] : List Value).toArray lw_tb RX8 := S
  have hl : lv_has ls 3 [(0, .ref (a 0)), (1, .int v), (2, .int z)] := hl
  obtain ⟨gw1, gw2, gn, gl1, gl2, gop, gmu, gba, gla, gen, gpr, gop2, gmu2, gba2, gla2, gme, gbe, gle, gee⟩ := id hG
  refine lv_aload_n S.1 S.2.1 dX8_piece_0 rfl (lv_at hl 0 rfl) ?_
  refine lv_iload_n S.1 S.2.1 dX8_piece_1 rfl (lv_at hl 1 rfl) ?_
  refine kX8_isCourse S hI hG tw_673 (rok (by decide)) hl.1 (Nat.le_of_ble_eq_true rfl) dX8_piece_2 ?_
  refine ly_ifne (tgt := 10) S bI_e2 bI_e1 dX8_piece_5 (by decide) (fun h1 => ?_) (fun h1 => ?_)
  · skip
    exact absurd h1 (by rw [hv]; decide)
  · skip
    refine lv_iconst (v := (-1)) S.1 S.2.1 dX8_piece_8 (by decide) ?_
    exact rt_i S hr hlk rfl dX8_piece_9
theorem kX8_piece_a {p : Program} {l : Launch} {e : Env} {R : Room} {s : State} {m : MethodId} {args : Array Value} {below : List Frame} {meth : Method} {c : Code} {H : Heap} {locs : List Loc} {cells slots : Nat} {Q : State → Prop} {cc : ByteArray} {nL index pc : Nat} {own : String} {ls : Array Slot} {rest : List Value} {D : va_G} {K : Nat → ClassId} {a : Nat → Nat} {w n lap : Nat} {op mu ba la en : Nat → Nat} {pr : Nat → Option Nat} {sc : MSc} {v : Int32} {z : Int32} (S : CallFix p m c cc nL s args lw_tb own) (hI : PI D K (mW K a w n lap op mu ba la en pr sc) s H) (hG : GOK w n lap op mu ba la en pr) (hv : wiI v 0 (nI n - 1) = false) (hlink : Cond.methodLink own index yX8_piece ∈ lw_tb) (hR : RO 3 R cells slots) (hsz : ls.size = nL) (hW : (rest.map fun v => v.category).sum ≤ 8) (hdg : decode cc pc = .ok (.invokevirtual index, 3)) (kk : W p l e R s m args below meth c H locs cells slots Q (F0 m (pc + 3) ls (.int ((-1)) :: rest))) : W p l e R s m args below meth c H locs cells slots Q (F0 m pc ls (.int z :: .int v :: .ref (a 0) :: rest)) :=
  kV (As := [.int v, .int z]) (b := a 0) S (mX8_piece_a l hG hv) hlink tw_841 tw_842 tw_50 tw_843 (by show _ ∧ _ ∧ _ = some 2; decide +kernel) (by decide) hR blP (piU hI) (va_recv hI.2 hI.1 (ci := 8) (q0 := 0) rfl rfl) hsz rfl hW hdg kk

set_option maxHeartbeats 4000000 in
set_option maxRecDepth 100000 in
theorem mX8_piece_b (l : Launch) {D : va_G} {K : Nat → ClassId} {a : Nat → Nat} {w n lap : Nat} {op mu ba la en : Nat → Nat} {pr : Nat → Option Nat} {sc : MSc} {ci : Nat} {z : Int32} (hG : GOK w n lap op mu ba la en pr) (hc : ci < n) (hz : wiI z (nI 0) (nI (w - 1)) = false) : Met l yX8_piece (TWd yX8_piece cX8_piece 3 (some .int)) (rmk 3) (va_Pc [.ref (a 0), .int (nI ci), .int z] (fun U => PI D K (mW K a w n lap op mu ba la en pr sc) U U.heap)) (QcRead ((-2))) 0 0 (fun _ => False) := by
  refine mt_of (by decide +kernel) (Nat.le_of_ble_eq_true rfl) ?_
  intro p e s m below meth c S hr hlk hI ls hl
  have S : CallFix p m c cX8_piece 3 s ([.ref (a 0), .int (nI ci), .int z] : List Value).toArray lw_tb RX8 := S
  have hl : lv_has ls 3 [(0, .ref (a 0)), (1, .int (nI ci)), (2, .int z)] := hl
  obtain ⟨gw1, gw2, gn, gl1, gl2, gop, gmu, gba, gla, gen, gpr, gop2, gmu2, gba2, gla2, gme, gbe, gle, gee⟩ := id hG
  refine lv_aload_n S.1 S.2.1 dX8_piece_0 rfl (lv_at hl 0 rfl) ?_
  refine lv_iload_n S.1 S.2.1 dX8_piece_1 rfl (lv_at hl 1 rfl) ?_
  refine kX8_isCourse S hI hG tw_673 (rok (by decide)) hl.1 (Nat.le_of_ble_eq_true rfl) dX8_piece_2 ?_
  refine ly_ifne (tgt := 10) S bI_e2 bI_e1 dX8_piece_5 (by decide) (fun h1 => ?_) (fun h1 => ?_)
  · skip
    refine lv_iload_n S.1 S.2.1 dX8_piece_10 rfl (lv_at hl 2 rfl) ?_
    refine lv_iconst (v := nI 0) S.1 S.2.1 dX8_piece_11 (by decide) ?_
    refine lv_aload_n S.1 S.2.1 dX8_piece_12 rfl (lv_at hl 0 rfl) ?_
    refine g8 S hI 0 rfl 0 (by decide) tw_607 rfl dX8_piece_13 ?_
    refine lv_iconst (v := nI 1) S.1 S.2.1 dX8_piece_16 (by decide) ?_
    refine lv_isub S.1 S.2.1 dX8_piece_17 ?_
    refine ly_top (z := nI (w - 1)) (pk_sub (by omega)) ?_
    refine kX8_within S  tw_658 (rok (by decide)) hl.1 (Nat.le_of_ble_eq_true rfl) dX8_piece_18 ?_
    refine ly_ifne (tgt := 27) S bI_e2 bI_e1 dX8_piece_21 (by decide) (fun h2 => ?_) (fun h2 => ?_)
    · skip
      exact absurd h2 (by rw [hz]; decide)
    · skip
      refine lv_bipush (v := (-2)) S.1 S.2.1 dX8_piece_24 (by decide) ?_
      exact rt_i S hr hlk rfl dX8_piece_26
  · skip
    exact absurd h1 (by rw [wiC (by omega) (by omega)]; decide)
theorem kX8_piece_b {p : Program} {l : Launch} {e : Env} {R : Room} {s : State} {m : MethodId} {args : Array Value} {below : List Frame} {meth : Method} {c : Code} {H : Heap} {locs : List Loc} {cells slots : Nat} {Q : State → Prop} {cc : ByteArray} {nL index pc : Nat} {own : String} {ls : Array Slot} {rest : List Value} {D : va_G} {K : Nat → ClassId} {a : Nat → Nat} {w n lap : Nat} {op mu ba la en : Nat → Nat} {pr : Nat → Option Nat} {sc : MSc} {ci : Nat} {z : Int32} (S : CallFix p m c cc nL s args lw_tb own) (hI : PI D K (mW K a w n lap op mu ba la en pr sc) s H) (hG : GOK w n lap op mu ba la en pr) (hc : ci < n) (hz : wiI z (nI 0) (nI (w - 1)) = false) (hlink : Cond.methodLink own index yX8_piece ∈ lw_tb) (hR : RO 3 R cells slots) (hsz : ls.size = nL) (hW : (rest.map fun v => v.category).sum ≤ 8) (hdg : decode cc pc = .ok (.invokevirtual index, 3)) (kk : W p l e R s m args below meth c H locs cells slots Q (F0 m (pc + 3) ls (.int ((-2)) :: rest))) : W p l e R s m args below meth c H locs cells slots Q (F0 m pc ls (.int z :: .int (nI ci) :: .ref (a 0) :: rest)) :=
  kV (As := [.int (nI ci), .int z]) (b := a 0) S (mX8_piece_b l hG hc hz) hlink tw_841 tw_842 tw_50 tw_843 (by show _ ∧ _ ∧ _ = some 2; decide +kernel) (by decide) hR blP (piU hI) (va_recv hI.2 hI.1 (ci := 8) (q0 := 0) rfl rfl) hsz rfl hW hdg kk

set_option maxHeartbeats 4000000 in
set_option maxRecDepth 100000 in
theorem mX8_piece_c (l : Launch) {D : va_G} {K : Nat → ClassId} {a : Nat → Nat} {w n lap : Nat} {op mu ba la en : Nat → Nat} {pr : Nat → Option Nat} {sc : MSc} {ci : Nat} {x : Nat} (hG : GOK w n lap op mu ba la en pr) (hc : ci < n) (hx : x < w) (ho : Nat.testBit (op ci) x = true) : Met l yX8_piece (TWd yX8_piece cX8_piece 3 (some .int)) (rmk 3) (va_Pc [.ref (a 0), .int (nI ci), .int (nI x)] (fun U => PI D K (mW K a w n lap op mu ba la en pr sc) U U.heap)) (QcRead ((-9))) 0 0 (fun _ => False) := by
  refine mt_of (by decide +kernel) (Nat.le_of_ble_eq_true rfl) ?_
  intro p e s m below meth c S hr hlk hI ls hl
  have S : CallFix p m c cX8_piece 3 s ([.ref (a 0), .int (nI ci), .int (nI x)] : List Value).toArray lw_tb RX8 := S
  have hl : lv_has ls 3 [(0, .ref (a 0)), (1, .int (nI ci)), (2, .int (nI x))] := hl
  obtain ⟨gw1, gw2, gn, gl1, gl2, gop, gmu, gba, gla, gen, gpr, gop2, gmu2, gba2, gla2, gme, gbe, gle, gee⟩ := id hG
  have o1 := gop ci
  refine lv_aload_n S.1 S.2.1 dX8_piece_0 rfl (lv_at hl 0 rfl) ?_
  refine lv_iload_n S.1 S.2.1 dX8_piece_1 rfl (lv_at hl 1 rfl) ?_
  refine kX8_isCourse S hI hG tw_673 (rok (by decide)) hl.1 (Nat.le_of_ble_eq_true rfl) dX8_piece_2 ?_
  refine ly_ifne (tgt := 10) S bI_e2 bI_e1 dX8_piece_5 (by decide) (fun h1 => ?_) (fun h1 => ?_)
  · skip
    refine lv_iload_n S.1 S.2.1 dX8_piece_10 rfl (lv_at hl 2 rfl) ?_
    refine lv_iconst (v := nI 0) S.1 S.2.1 dX8_piece_11 (by decide) ?_
    refine lv_aload_n S.1 S.2.1 dX8_piece_12 rfl (lv_at hl 0 rfl) ?_
    refine g8 S hI 0 rfl 0 (by decide) tw_607 rfl dX8_piece_13 ?_
    refine lv_iconst (v := nI 1) S.1 S.2.1 dX8_piece_16 (by decide) ?_
    refine lv_isub S.1 S.2.1 dX8_piece_17 ?_
    refine ly_top (z := nI (w - 1)) (pk_sub (by omega)) ?_
    refine kX8_within S  tw_658 (rok (by decide)) hl.1 (Nat.le_of_ble_eq_true rfl) dX8_piece_18 ?_
    refine ly_ifne (tgt := 27) S bI_e2 bI_e1 dX8_piece_21 (by decide) (fun h2 => ?_) (fun h2 => ?_)
    · skip
      refine lv_aload_n S.1 S.2.1 dX8_piece_27 rfl (lv_at hl 0 rfl) ?_
      refine g8 S hI 0 rfl 2 (by decide) tw_609 rfl dX8_piece_28 ?_
      refine lv_iload_n S.1 S.2.1 dX8_piece_31 rfl (lv_at hl 1 rfl) ?_
      refine ly_iald (v := (nI (op ci))) S hI 1 rfl (by omega) (by decide) rfl dX8_piece_32 ?_
      refine lv_iload_n S.1 S.2.1 dX8_piece_33 rfl (lv_at hl 2 rfl) ?_
      refine kX8_has S (by omega) (by omega) tw_705 (rok (by decide)) hl.1 (Nat.le_of_ble_eq_true rfl) dX8_piece_34 ?_
      refine ly_ifeq (tgt := 45) S bI_e1 bI_e2 dX8_piece_37 (by decide) (fun h3 => ?_) (fun h3 => ?_)
      · skip
        exact absurd h3 (by rw [ho]; decide)
      · skip
        refine lv_bipush (v := (-9)) S.1 S.2.1 dX8_piece_40 (by decide) ?_
        refine lv_goto (tgt := 68) S.1 S.2.1 dX8_piece_42 (by decide) ?_
        exact rt_i S hr hlk rfl dX8_piece_68
    · skip
      exact absurd h2 (by rw [wiN (by omega) (by omega) (by omega)]; decide)
  · skip
    exact absurd h1 (by rw [wiC (by omega) (by omega)]; decide)
theorem kX8_piece_c {p : Program} {l : Launch} {e : Env} {R : Room} {s : State} {m : MethodId} {args : Array Value} {below : List Frame} {meth : Method} {c : Code} {H : Heap} {locs : List Loc} {cells slots : Nat} {Q : State → Prop} {cc : ByteArray} {nL index pc : Nat} {own : String} {ls : Array Slot} {rest : List Value} {D : va_G} {K : Nat → ClassId} {a : Nat → Nat} {w n lap : Nat} {op mu ba la en : Nat → Nat} {pr : Nat → Option Nat} {sc : MSc} {ci : Nat} {x : Nat} (S : CallFix p m c cc nL s args lw_tb own) (hI : PI D K (mW K a w n lap op mu ba la en pr sc) s H) (hG : GOK w n lap op mu ba la en pr) (hc : ci < n) (hx : x < w) (ho : Nat.testBit (op ci) x = true) (hlink : Cond.methodLink own index yX8_piece ∈ lw_tb) (hR : RO 3 R cells slots) (hsz : ls.size = nL) (hW : (rest.map fun v => v.category).sum ≤ 8) (hdg : decode cc pc = .ok (.invokevirtual index, 3)) (kk : W p l e R s m args below meth c H locs cells slots Q (F0 m (pc + 3) ls (.int ((-9)) :: rest))) : W p l e R s m args below meth c H locs cells slots Q (F0 m pc ls (.int (nI x) :: .int (nI ci) :: .ref (a 0) :: rest)) :=
  kV (As := [.int (nI ci), .int (nI x)]) (b := a 0) S (mX8_piece_c l hG hc hx ho) hlink tw_841 tw_842 tw_50 tw_843 (by show _ ∧ _ ∧ _ = some 2; decide +kernel) (by decide) hR blP (piU hI) (va_recv hI.2 hI.1 (ci := 8) (q0 := 0) rfl rfl) hsz rfl hW hdg kk

set_option maxHeartbeats 4000000 in
set_option maxRecDepth 100000 in
theorem mX8_piece_d (l : Launch) {D : va_G} {K : Nat → ClassId} {a : Nat → Nat} {w n lap : Nat} {op mu ba la en : Nat → Nat} {pr : Nat → Option Nat} {sc : MSc} {ci : Nat} {x : Nat} (hG : GOK w n lap op mu ba la en pr) (hc : ci < n) (hx : x < w) (ho : Nat.testBit (op ci) x = false) : Met l yX8_piece (TWd yX8_piece cX8_piece 3 (some .int)) (rmk 3) (va_Pc [.ref (a 0), .int (nI ci), .int (nI x)] (fun U => PI D K (mW K a w n lap op mu ba la en pr sc) U U.heap)) (QcRead (nI (lenF w (op ci) (la ci) (foF (op ci) (la ci) x)))) 0 0 (fun _ => False) := by
  refine mt_of (by decide +kernel) (Nat.le_of_ble_eq_true rfl) ?_
  intro p e s m below meth c S hr hlk hI ls hl
  have S : CallFix p m c cX8_piece 3 s ([.ref (a 0), .int (nI ci), .int (nI x)] : List Value).toArray lw_tb RX8 := S
  have hl : lv_has ls 3 [(0, .ref (a 0)), (1, .int (nI ci)), (2, .int (nI x))] := hl
  obtain ⟨gw1, gw2, gn, gl1, gl2, gop, gmu, gba, gla, gen, gpr, gop2, gmu2, gba2, gla2, gme, gbe, gle, gee⟩ := id hG
  have o1 := gop ci
  have o2 := gla ci
  refine lv_aload_n S.1 S.2.1 dX8_piece_0 rfl (lv_at hl 0 rfl) ?_
  refine lv_iload_n S.1 S.2.1 dX8_piece_1 rfl (lv_at hl 1 rfl) ?_
  refine kX8_isCourse S hI hG tw_673 (rok (by decide)) hl.1 (Nat.le_of_ble_eq_true rfl) dX8_piece_2 ?_
  refine ly_ifne (tgt := 10) S bI_e2 bI_e1 dX8_piece_5 (by decide) (fun h1 => ?_) (fun h1 => ?_)
  · skip
    refine lv_iload_n S.1 S.2.1 dX8_piece_10 rfl (lv_at hl 2 rfl) ?_
    refine lv_iconst (v := nI 0) S.1 S.2.1 dX8_piece_11 (by decide) ?_
    refine lv_aload_n S.1 S.2.1 dX8_piece_12 rfl (lv_at hl 0 rfl) ?_
    refine g8 S hI 0 rfl 0 (by decide) tw_607 rfl dX8_piece_13 ?_
    refine lv_iconst (v := nI 1) S.1 S.2.1 dX8_piece_16 (by decide) ?_
    refine lv_isub S.1 S.2.1 dX8_piece_17 ?_
    refine ly_top (z := nI (w - 1)) (pk_sub (by omega)) ?_
    refine kX8_within S  tw_658 (rok (by decide)) hl.1 (Nat.le_of_ble_eq_true rfl) dX8_piece_18 ?_
    refine ly_ifne (tgt := 27) S bI_e2 bI_e1 dX8_piece_21 (by decide) (fun h2 => ?_) (fun h2 => ?_)
    · skip
      refine lv_aload_n S.1 S.2.1 dX8_piece_27 rfl (lv_at hl 0 rfl) ?_
      refine g8 S hI 0 rfl 2 (by decide) tw_609 rfl dX8_piece_28 ?_
      refine lv_iload_n S.1 S.2.1 dX8_piece_31 rfl (lv_at hl 1 rfl) ?_
      refine ly_iald (v := (nI (op ci))) S hI 1 rfl (by omega) (by decide) rfl dX8_piece_32 ?_
      refine lv_iload_n S.1 S.2.1 dX8_piece_33 rfl (lv_at hl 2 rfl) ?_
      refine kX8_has S (by omega) (by omega) tw_705 (rok (by decide)) hl.1 (Nat.le_of_ble_eq_true rfl) dX8_piece_34 ?_
      refine ly_ifeq (tgt := 45) S bI_e1 bI_e2 dX8_piece_37 (by decide) (fun h3 => ?_) (fun h3 => ?_)
      · skip
        refine lv_aload_n S.1 S.2.1 dX8_piece_45 rfl (lv_at hl 0 rfl) ?_
        refine lv_iload_n S.1 S.2.1 dX8_piece_46 rfl (lv_at hl 1 rfl) ?_
        refine lv_aload_n S.1 S.2.1 dX8_piece_47 rfl (lv_at hl 0 rfl) ?_
        refine g8 S hI 0 rfl 5 (by decide) tw_612 rfl dX8_piece_48 ?_
        refine lv_iload_n S.1 S.2.1 dX8_piece_51 rfl (lv_at hl 1 rfl) ?_
        refine ly_iald (v := (nI (la ci))) S hI 4 rfl (by omega) (by decide) rfl dX8_piece_52 ?_
        refine lv_aload_n S.1 S.2.1 dX8_piece_53 rfl (lv_at hl 0 rfl) ?_
        refine lv_iload_n S.1 S.2.1 dX8_piece_54 rfl (lv_at hl 1 rfl) ?_
        refine lv_aload_n S.1 S.2.1 dX8_piece_55 rfl (lv_at hl 0 rfl) ?_
        refine g8 S hI 0 rfl 5 (by decide) tw_612 rfl dX8_piece_56 ?_
        refine lv_iload_n S.1 S.2.1 dX8_piece_59 rfl (lv_at hl 1 rfl) ?_
        refine ly_iald (v := (nI (la ci))) S hI 4 rfl (by omega) (by decide) rfl dX8_piece_60 ?_
        refine lv_iload_n S.1 S.2.1 dX8_piece_61 rfl (lv_at hl 2 rfl) ?_
        refine kX8_firstOf S hI hG (by omega) (by omega) (by omega) (by assumption) tw_748 (rok (by decide)) hl.1 (Nat.le_of_ble_eq_true rfl) dX8_piece_62 ?_
        have b4 : foF (op ci) (la ci) x ≤ x := foF_le _ _ _
        refine kX8_lengthFrom S hI hG (by omega) (by omega) (by omega) tw_732 (rok (by decide)) hl.1 (Nat.le_of_ble_eq_true rfl) dX8_piece_65 ?_
        have b5 : 1 ≤ lenF w (op ci) (la ci) (foF (op ci) (la ci) x) := lenF_pos
        have b6 : (foF (op ci) (la ci) x) + lenF w (op ci) (la ci) (foF (op ci) (la ci) x) ≤ w := lenF_le (by omega)
        exact rt_i S hr hlk rfl dX8_piece_68
      · skip
        exact absurd h3 (by rw [ho]; decide)
    · skip
      exact absurd h2 (by rw [wiN (by omega) (by omega) (by omega)]; decide)
  · skip
    exact absurd h1 (by rw [wiC (by omega) (by omega)]; decide)
theorem kX8_piece_d {p : Program} {l : Launch} {e : Env} {R : Room} {s : State} {m : MethodId} {args : Array Value} {below : List Frame} {meth : Method} {c : Code} {H : Heap} {locs : List Loc} {cells slots : Nat} {Q : State → Prop} {cc : ByteArray} {nL index pc : Nat} {own : String} {ls : Array Slot} {rest : List Value} {D : va_G} {K : Nat → ClassId} {a : Nat → Nat} {w n lap : Nat} {op mu ba la en : Nat → Nat} {pr : Nat → Option Nat} {sc : MSc} {ci : Nat} {x : Nat} (S : CallFix p m c cc nL s args lw_tb own) (hI : PI D K (mW K a w n lap op mu ba la en pr sc) s H) (hG : GOK w n lap op mu ba la en pr) (hc : ci < n) (hx : x < w) (ho : Nat.testBit (op ci) x = false) (hlink : Cond.methodLink own index yX8_piece ∈ lw_tb) (hR : RO 3 R cells slots) (hsz : ls.size = nL) (hW : (rest.map fun v => v.category).sum ≤ 8) (hdg : decode cc pc = .ok (.invokevirtual index, 3)) (kk : W p l e R s m args below meth c H locs cells slots Q (F0 m (pc + 3) ls (.int (nI (lenF w (op ci) (la ci) (foF (op ci) (la ci) x))) :: rest))) : W p l e R s m args below meth c H locs cells slots Q (F0 m pc ls (.int (nI x) :: .int (nI ci) :: .ref (a 0) :: rest)) :=
  kV (As := [.int (nI ci), .int (nI x)]) (b := a 0) S (mX8_piece_d l hG hc hx ho) hlink tw_841 tw_842 tw_50 tw_843 (by show _ ∧ _ ∧ _ = some 2; decide +kernel) (by decide) hR blP (piU hI) (va_recv hI.2 hI.1 (ci := 8) (q0 := 0) rfl rfl) hsz rfl hW hdg kk

set_option maxHeartbeats 4000000 in
set_option maxRecDepth 100000 in
theorem mX8_laidRule (l : Launch) {D : va_G} {K : Nat → ClassId} {a : Nat → Nat} {w n lap : Nat} {op mu ba la en : Nat → Nat} {pr : Nat → Option Nat} {sc : MSc} {ci : Nat} (hG : GOK w n lap op mu ba la en pr) (hci : ci < 8) : Met l yX8_laidRule (TWd yX8_laidRule cX8_laidRule 4 (some .int)) (rmk 5) (va_Pc [.ref (a 0), .int (nI ci)] (fun U => PI D K (mW K a w n lap op mu ba la en pr sc) U U.heap)) (QcRead (nI (lrF pr w lap op mu ba la en ci))) 0 0 (fun _ => False) := by
  refine mt_of (by decide +kernel) (Nat.le_of_ble_eq_true rfl) ?_
  intro p e s m below meth c S hr hlk hI ls hl
  have S : CallFix p m c cX8_laidRule 4 s ([.ref (a 0), .int (nI ci)] : List Value).toArray lw_tb RX8 := S
  have hl : lv_has ls 4 [(0, .ref (a 0)), (1, .int (nI ci))] := hl
  obtain ⟨gw1, gw2, gn, gl1, gl2, gop, gmu, gba, gla, gen, gpr, gop2, gmu2, gba2, gla2, gme, gbe, gle, gee⟩ := id hG
  have o1 := gla ci
  have o2 := gla (ci - 1)
  refine lv_aload_n S.1 S.2.1 dX8_laidRule_0 rfl (lv_at hl 0 rfl) ?_
  refine lv_iload_n S.1 S.2.1 dX8_laidRule_1 rfl (lv_at hl 1 rfl) ?_
  refine lv_aload_n S.1 S.2.1 dX8_laidRule_2 rfl (lv_at hl 0 rfl) ?_
  refine g8 S hI 0 rfl 5 (by decide) tw_612 rfl dX8_laidRule_3 ?_
  refine lv_iload_n S.1 S.2.1 dX8_laidRule_6 rfl (lv_at hl 1 rfl) ?_
  refine ly_iald (v := (nI (la ci))) S hI 4 rfl (by omega) (by decide) rfl dX8_laidRule_7 ?_
  refine kX8_ruleOf S hI hG (by omega) (by omega) tw_716 (rok (by decide)) hl.1 (Nat.le_of_ble_eq_true rfl) dX8_laidRule_8 ?_
  have b1 : ruF pr w (op ci) (bl op ci) (mu ci) (ba ci) (en (ci % 2 * 2)) (en (ci % 2 * 2 + 1)) (la ci) ≤ 6 := ruF_le
  refine lv_istore_n (lv' := [(2, .int (nI (ruF pr w (op ci) (bl op ci) (mu ci) (ba ci) (en (ci % 2 * 2)) (en (ci % 2 * 2 + 1)) (la ci)))), (0, .ref (a 0)), (1, .int (nI ci))]) S.1 S.2.1 dX8_laidRule_11 rfl hl (by decide) rfl (fun ls hl => ?_)
  have J47 : ∀ (ls : Array Slot), lv_has ls 4 [(0, .ref (a 0)), (1, .int (nI ci)), (2, .int (nI (ruF pr w (op ci) (bl op ci) (mu ci) (ba ci) (en (ci % 2 * 2)) (en (ci % 2 * 2 + 1)) (la ci)))), (3, .int (bI (decide (0 < ci) && decide (arG (la (ci - 1)) lap &&& la ci ≠ 0))))] → W p l e (rmk 5) s m ([.ref (a 0), .int (nI ci)] : List Value).toArray below meth c s.heap [] 0 0 (MQ below (QcRead (nI (lrF pr w lap op mu ba la en ci))) ([.ref (a 0), .int (nI ci)] : List Value).toArray s 0 0 (fun _ => False)) (F0 m 47 ls []) := by
    intro  ls hl
    refine lv_iload_n S.1 S.2.1 dX8_laidRule_47 rfl (lv_at hl 2 rfl) ?_
    refine ly_ifeq (tgt := 55) S (nI_z1 (by omega)) (nI_z2 (by omega)) dX8_laidRule_48 (by decide) (fun h2 => ?_) (fun h2 => ?_)
    · skip
      refine lv_iload_n S.1 S.2.1 dX8_laidRule_55 rfl (lv_at hl 3 rfl) ?_
      refine ly_ifeq (tgt := 64) S bI_e1 bI_e2 dX8_laidRule_56 (by decide) (fun h3 => ?_) (fun h3 => ?_)
      · skip
        refine lv_iconst (v := nI 0) S.1 S.2.1 dX8_laidRule_64 (by decide) ?_
        exact rt_i S hr hlk (lrF_3 h2 h3) dX8_laidRule_65
      · skip
        refine lv_bipush (v := nI 7) S.1 S.2.1 dX8_laidRule_59 (by decide) ?_
        refine lv_goto (tgt := 65) S.1 S.2.1 dX8_laidRule_61 (by decide) ?_
        exact rt_i S hr hlk (lrF_2 h2 h3) dX8_laidRule_65
    · skip
      refine lv_iload_n S.1 S.2.1 dX8_laidRule_51 rfl (lv_at hl 2 rfl) ?_
      refine lv_goto (tgt := 65) S.1 S.2.1 dX8_laidRule_52 (by decide) ?_
      exact rt_i S hr hlk (lrF_1 h2) dX8_laidRule_65
  refine lv_iload_n S.1 S.2.1 dX8_laidRule_12 rfl (lv_at hl 2 rfl) ?_
  refine ly_ifle (tgt := 45) S (fun q => nI_p2 (by omega) (Int32.not_lt.mpr q)) (fun q => nI_p1 (by omega) (Int32.not_le.mp q)) dX8_laidRule_13 (by decide) (fun h4 => ?_) (fun h4 => ?_)
  · skip
    refine lv_iconst (v := nI 0) S.1 S.2.1 dX8_laidRule_45 (by decide) ?_
    refine ly_top (z := bI (decide (0 < ci) && decide (arG (la (ci - 1)) lap &&& la ci ≠ 0))) (by rw [show (decide (0 < ci) && decide (arG (la (ci - 1)) lap &&& la ci ≠ 0)) = false by simp [h4]]; rfl) ?_
    refine lv_istore_n (lv' := [(3, .int (bI (decide (0 < ci) && decide (arG (la (ci - 1)) lap &&& la ci ≠ 0)))), (2, .int (nI (ruF pr w (op ci) (bl op ci) (mu ci) (ba ci) (en (ci % 2 * 2)) (en (ci % 2 * 2 + 1)) (la ci)))), (0, .ref (a 0)), (1, .int (nI ci))]) S.1 S.2.1 dX8_laidRule_46 rfl hl (by decide) rfl (fun ls hl => ?_)
    exact J47  _ (lv_sub hl [2, 3, 1, 0] rfl)
  · skip
    refine lv_aload_n S.1 S.2.1 dX8_laidRule_16 rfl (lv_at hl 1 rfl) ?_
    refine g8 S hI 0 rfl 5 (by decide) tw_612 rfl dX8_laidRule_17 ?_
    refine lv_iload_n S.1 S.2.1 dX8_laidRule_20 rfl (lv_at hl 2 rfl) ?_
    refine lv_iconst (v := nI 1) S.1 S.2.1 dX8_laidRule_21 (by decide) ?_
    refine lv_isub S.1 S.2.1 dX8_laidRule_22 ?_
    refine ly_top (z := nI (ci - 1)) (pk_sub (by omega)) ?_
    refine ly_iald (v := (nI (la (ci - 1)))) S hI 4 rfl (by omega) (by decide) rfl dX8_laidRule_23 ?_
    refine lv_aload_n S.1 S.2.1 dX8_laidRule_24 rfl (lv_at hl 1 rfl) ?_
    refine g8 S hI 0 rfl 8 (by decide) tw_615 rfl dX8_laidRule_25 ?_
    refine kX8_around S (by omega) (by omega) (by omega) tw_765 (rok (by decide)) hl.1 (Nat.le_of_ble_eq_true rfl) dX8_laidRule_28 ?_
    have b5 : arG (la (ci - 1)) lap < 4096 := arG_lt (by omega) _ (by omega)
    refine lv_aload_n S.1 S.2.1 dX8_laidRule_31 rfl (lv_at hl 1 rfl) ?_
    refine g8 S hI 0 rfl 5 (by decide) tw_612 rfl dX8_laidRule_32 ?_
    refine lv_iload_n S.1 S.2.1 dX8_laidRule_35 rfl (lv_at hl 2 rfl) ?_
    refine ly_iald (v := (nI (la ci))) S hI 4 rfl (by omega) (by decide) rfl dX8_laidRule_36 ?_
    refine lv_iand S.1 S.2.1 dX8_laidRule_37 ?_
    refine ly_top (z := nI ((arG (la (ci - 1)) lap) &&& (la ci))) (nI_and (by omega) (by omega)) ?_
    refine ly_ifeq (tgt := 45) S (nI_z1 (Nat.lt_of_le_of_lt Nat.and_le_right (by omega))) (nI_z2 (Nat.lt_of_le_of_lt Nat.and_le_right (by omega))) dX8_laidRule_38 (by decide) (fun h6 => ?_) (fun h6 => ?_)
    · skip
      refine lv_iconst (v := nI 0) S.1 S.2.1 dX8_laidRule_45 (by decide) ?_
      refine ly_top (z := bI (decide (0 < ci) && decide (arG (la (ci - 1)) lap &&& la ci ≠ 0))) (by rw [show (decide (0 < ci) && decide (arG (la (ci - 1)) lap &&& la ci ≠ 0)) = false by simp [h4, h6]]; rfl) ?_
      refine lv_istore_n (lv' := [(3, .int (bI (decide (0 < ci) && decide (arG (la (ci - 1)) lap &&& la ci ≠ 0)))), (2, .int (nI (ruF pr w (op ci) (bl op ci) (mu ci) (ba ci) (en (ci % 2 * 2)) (en (ci % 2 * 2 + 1)) (la ci)))), (0, .ref (a 0)), (1, .int (nI ci))]) S.1 S.2.1 dX8_laidRule_46 rfl hl (by decide) rfl (fun ls hl => ?_)
      exact J47  _ (lv_sub hl [2, 3, 1, 0] rfl)
    · skip
      refine lv_iconst (v := nI 1) S.1 S.2.1 dX8_laidRule_41 (by decide) ?_
      refine lv_goto (tgt := 46) S.1 S.2.1 dX8_laidRule_42 (by decide) ?_
      refine ly_top (z := bI (decide (0 < ci) && decide (arG (la (ci - 1)) lap &&& la ci ≠ 0))) (by rw [show (decide (0 < ci) && decide (arG (la (ci - 1)) lap &&& la ci ≠ 0)) = true by simp [h4, h6]]; rfl) ?_
      refine lv_istore_n (lv' := [(3, .int (bI (decide (0 < ci) && decide (arG (la (ci - 1)) lap &&& la ci ≠ 0)))), (2, .int (nI (ruF pr w (op ci) (bl op ci) (mu ci) (ba ci) (en (ci % 2 * 2)) (en (ci % 2 * 2 + 1)) (la ci)))), (0, .ref (a 0)), (1, .int (nI ci))]) S.1 S.2.1 dX8_laidRule_46 rfl hl (by decide) rfl (fun ls hl => ?_)
      exact J47  _ (lv_sub hl [2, 3, 1, 0] rfl)
theorem kX8_laidRule {p : Program} {l : Launch} {e : Env} {R : Room} {s : State} {m : MethodId} {args : Array Value} {below : List Frame} {meth : Method} {c : Code} {H : Heap} {locs : List Loc} {cells slots : Nat} {Q : State → Prop} {cc : ByteArray} {nL index pc : Nat} {own : String} {ls : Array Slot} {rest : List Value} {D : va_G} {K : Nat → ClassId} {a : Nat → Nat} {w n lap : Nat} {op mu ba la en : Nat → Nat} {pr : Nat → Option Nat} {sc : MSc} {ci : Nat} (S : CallFix p m c cc nL s args lw_tb own) (hI : PI D K (mW K a w n lap op mu ba la en pr sc) s H) (hG : GOK w n lap op mu ba la en pr) (hci : ci < 8) (hlink : Cond.methodLink own index yX8_laidRule ∈ lw_tb) (hR : RO 5 R cells slots) (hsz : ls.size = nL) (hW : (rest.map fun v => v.category).sum ≤ 8) (hdg : decode cc pc = .ok (.invokevirtual index, 3)) (kk : W p l e R s m args below meth c H locs cells slots Q (F0 m (pc + 3) ls (.int (nI (lrF pr w lap op mu ba la en ci)) :: rest))) : W p l e R s m args below meth c H locs cells slots Q (F0 m pc ls (.int (nI ci) :: .ref (a 0) :: rest)) :=
  kV (As := [.int (nI ci)]) (b := a 0) S (mX8_laidRule l hG hci) hlink tw_826 tw_37 tw_50 tw_827 (by show _ ∧ _ ∧ _ = some 1; decide +kernel) (by decide) hR blP (piU hI) (va_recv hI.2 hI.1 (ci := 8) (q0 := 0) rfl rfl) hsz rfl hW hdg kk

set_option maxHeartbeats 4000000 in
set_option maxRecDepth 100000 in
theorem mX8_wrong_a (l : Launch) {D : va_G} {K : Nat → ClassId} {a : Nat → Nat} {w n lap : Nat} {op mu ba la en : Nat → Nat} {pr : Nat → Option Nat} {sc : MSc} {v : Int32} (hG : GOK w n lap op mu ba la en pr) (hv : wiI v (nI 0) (nI 1) = false) : Met l yX8_wrong (TWd yX8_wrong cX8_wrong 4 (some .int)) (rmk 6) (va_Pc [.ref (a 0), .int v] (fun U => PI D K (mW K a w n lap op mu ba la en pr sc) U U.heap)) (QcRead ((-2))) 0 0 (fun _ => False) := by
  refine mt_of (by decide +kernel) (Nat.le_of_ble_eq_true rfl) ?_
  intro p e s m below meth c S hr hlk hI ls hl
  have S : CallFix p m c cX8_wrong 4 s ([.ref (a 0), .int v] : List Value).toArray lw_tb RX8 := S
  have hl : lv_has ls 4 [(0, .ref (a 0)), (1, .int v)] := hl
  obtain ⟨gw1, gw2, gn, gl1, gl2, gop, gmu, gba, gla, gen, gpr, gop2, gmu2, gba2, gla2, gme, gbe, gle, gee⟩ := id hG
  refine lv_iload_n S.1 S.2.1 dX8_wrong_0 rfl (lv_at hl 1 rfl) ?_
  refine lv_iconst (v := nI 0) S.1 S.2.1 dX8_wrong_1 (by decide) ?_
  refine lv_iconst (v := nI 1) S.1 S.2.1 dX8_wrong_2 (by decide) ?_
  refine kX8_within S  tw_658 (rok (by decide)) hl.1 (Nat.le_of_ble_eq_true rfl) dX8_wrong_3 ?_
  refine ly_ifne (tgt := 12) S bI_e2 bI_e1 dX8_wrong_6 (by decide) (fun h1 => ?_) (fun h1 => ?_)
  · skip
    exact absurd h1 (by rw [hv]; decide)
  · skip
    refine lv_bipush (v := (-2)) S.1 S.2.1 dX8_wrong_9 (by decide) ?_
    exact rt_i S hr hlk rfl dX8_wrong_11
theorem kX8_wrong_a {p : Program} {l : Launch} {e : Env} {R : Room} {s : State} {m : MethodId} {args : Array Value} {below : List Frame} {meth : Method} {c : Code} {H : Heap} {locs : List Loc} {cells slots : Nat} {Q : State → Prop} {cc : ByteArray} {nL index pc : Nat} {own : String} {ls : Array Slot} {rest : List Value} {D : va_G} {K : Nat → ClassId} {a : Nat → Nat} {w n lap : Nat} {op mu ba la en : Nat → Nat} {pr : Nat → Option Nat} {sc : MSc} {v : Int32} (S : CallFix p m c cc nL s args lw_tb own) (hI : PI D K (mW K a w n lap op mu ba la en pr sc) s H) (hG : GOK w n lap op mu ba la en pr) (hv : wiI v (nI 0) (nI 1) = false) (hlink : Cond.methodLink own index yX8_wrong ∈ lw_tb) (hR : RO 6 R cells slots) (hsz : ls.size = nL) (hW : (rest.map fun v => v.category).sum ≤ 8) (hdg : decode cc pc = .ok (.invokevirtual index, 3)) (kk : W p l e R s m args below meth c H locs cells slots Q (F0 m (pc + 3) ls (.int ((-2)) :: rest))) : W p l e R s m args below meth c H locs cells slots Q (F0 m pc ls (.int v :: .ref (a 0) :: rest)) :=
  kV (As := [.int v]) (b := a 0) S (mX8_wrong_a l hG hv) hlink tw_821 tw_822 tw_50 tw_823 (by show _ ∧ _ ∧ _ = some 1; decide +kernel) (by decide) hR blP (piU hI) (va_recv hI.2 hI.1 (ci := 8) (q0 := 0) rfl rfl) hsz rfl hW hdg kk

set_option maxHeartbeats 4000000 in
set_option maxRecDepth 100000 in
theorem mX8_wrong_0 (l : Launch) {D : va_G} {K : Nat → ClassId} {a : Nat → Nat} {w n lap : Nat} {op mu ba la en : Nat → Nat} {pr : Nat → Option Nat} {sc : MSc} (hG : GOK w n lap op mu ba la en pr) : Met l yX8_wrong (TWd yX8_wrong cX8_wrong 4 (some .int)) (rmk 6) (va_Pc [.ref (a 0), .int (nI 0)] (fun U => PI D K (mW K a w n lap op mu ba la en pr sc) U U.heap)) (QcRead (wrG (lrF pr w lap op mu ba la en) (fun q => q) n 0)) 0 0 (fun _ => False) := by
  refine mt_of (by decide +kernel) (Nat.le_of_ble_eq_true rfl) ?_
  intro p e s m below meth c S hr hlk hI ls hl
  have S : CallFix p m c cX8_wrong 4 s ([.ref (a 0), .int (nI 0)] : List Value).toArray lw_tb RX8 := S
  have hl : lv_has ls 4 [(0, .ref (a 0)), (1, .int (nI 0))] := hl
  obtain ⟨gw1, gw2, gn, gl1, gl2, gop, gmu, gba, gla, gen, gpr, gop2, gmu2, gba2, gla2, gme, gbe, gle, gee⟩ := id hG
  refine lv_iload_n S.1 S.2.1 dX8_wrong_0 rfl (lv_at hl 1 rfl) ?_
  refine lv_iconst (v := nI 0) S.1 S.2.1 dX8_wrong_1 (by decide) ?_
  refine lv_iconst (v := nI 1) S.1 S.2.1 dX8_wrong_2 (by decide) ?_
  refine kX8_within S  tw_658 (rok (by decide)) hl.1 (Nat.le_of_ble_eq_true rfl) dX8_wrong_3 ?_
  refine ly_ifne (tgt := 12) S bI_e2 bI_e1 dX8_wrong_6 (by decide) (fun h1 => ?_) (fun h1 => ?_)
  · skip
    refine lv_iconst (v := nI 0) S.1 S.2.1 dX8_wrong_12 (by decide) ?_
    refine lv_istore_n (lv' := [(2, .int (nI 0)), (0, .ref (a 0)), (1, .int (nI 0))]) S.1 S.2.1 dX8_wrong_13 rfl hl (by decide) rfl (fun ls hl => ?_)
    have L14 : ∀ (f14 : Nat) (k : Nat), (k ≤ n) → (wrG (lrF pr w lap op mu ba la en) (fun q => q) (n - k) k = wrG (lrF pr w lap op mu ba la en) (fun q => q) n 0) → n - k < f14 → ∀ (ls : Array Slot), lv_has ls 4 [(0, .ref (a 0)), (1, .int (nI 0)), (2, .int (nI k))] → W p l e (rmk 6) s m ([.ref (a 0), .int (nI 0)] : List Value).toArray below meth c s.heap [] 0 0 (MQ below (QcRead (wrG (lrF pr w lap op mu ba la en) (fun q => q) n 0)) ([.ref (a 0), .int (nI 0)] : List Value).toArray s 0 0 (fun _ => False)) (F0 m 14 ls []) := by
      intro f14
      induction f14 with
      | zero =>
        intro k i2 i3 hm
        exact absurd hm (Nat.not_lt_zero _)
      | succ f14 ih14 =>
        intro k i2 i3 hm14 ls hl
        refine lv_iload_n S.1 S.2.1 dX8_wrong_14 rfl (lv_at hl 2 rfl) ?_
        refine lv_aload_n S.1 S.2.1 dX8_wrong_15 rfl (lv_at hl 0 rfl) ?_
        refine g8 S hI 0 rfl 1 (by decide) tw_608 rfl dX8_wrong_16 ?_
        refine ly_cmge (tgt := 48) S (nI_le1 (by omega) (by omega)) (nI_le2 (by omega) (by omega)) dX8_wrong_19 (by decide) (fun h2 => ?_) (fun h2 => ?_)
        · skip
          refine lv_bipush (v := (-9)) S.1 S.2.1 dX8_wrong_48 (by decide) ?_
          exact rt_i S hr hlk (by rw [← i3, show n - k = 0 by omega]; rfl) dX8_wrong_50
        · skip
          refine lv_aload_n S.1 S.2.1 dX8_wrong_22 rfl (lv_at hl 0 rfl) ?_
          refine lv_iload_n S.1 S.2.1 dX8_wrong_23 rfl (lv_at hl 2 rfl) ?_
          refine kX8_laidRule S hI hG (by omega) tw_824 (rok (by decide)) hl.1 (Nat.le_of_ble_eq_true rfl) dX8_wrong_24 ?_
          have b3 : lrF pr w lap op mu ba la en k ≤ 7 := lrF_le
          refine lv_istore_n (lv' := [(3, .int (nI (lrF pr w lap op mu ba la en k))), (0, .ref (a 0)), (1, .int (nI 0)), (2, .int (nI k))]) S.1 S.2.1 dX8_wrong_27 rfl hl (by decide) rfl (fun ls hl => ?_)
          refine lv_iload_n S.1 S.2.1 dX8_wrong_28 rfl (lv_at hl 0 rfl) ?_
          refine ly_ifeq (tgt := 42) S (nI_z1 (by omega)) (nI_z2 (by omega)) dX8_wrong_29 (by decide) (fun h4 => ?_) (fun h4 => ?_)
          · skip
            refine lv_iinc (v := nI (k + 1)) (lv' := [(2, .int (nI (k + 1))), (3, .int (nI (lrF pr w lap op mu ba la en k))), (0, .ref (a 0)), (1, .int (nI 0))]) S.1 S.2.1 dX8_wrong_42 hl (k := 3) rfl (nJ_in _ _) (by decide) rfl (fun ls hl => ?_)
            refine lv_goto (tgt := 14) S.1 S.2.1 dX8_wrong_45 (by decide) ?_
            exact ih14 (k + 1) (by omega) (by rw [← i3, wrG_s (by omega) h4]) (by omega) _ (lv_sub hl [2, 3, 0] rfl)
          · skip
            refine lv_iload_n S.1 S.2.1 dX8_wrong_32 rfl (lv_at hl 2 rfl) ?_
            refine ly_ifne (tgt := 40) S (nI_z2 (by omega)) (nI_z1 (by omega)) dX8_wrong_33 (by decide) (fun h5 => ?_) (fun h5 => ?_)
            · skip
              exact absurd h5 (by decide)
            · skip
              refine lv_iload_n S.1 S.2.1 dX8_wrong_36 rfl (lv_at hl 3 rfl) ?_
              refine lv_goto (tgt := 41) S.1 S.2.1 dX8_wrong_37 (by decide) ?_
              exact rt_i S hr hlk (by rw [← i3, wrG_t (by omega) h4]) dX8_wrong_41
    exact L14 _ 0 (by omega) rfl (Nat.lt_succ_self _) _ (lv_sub hl [1, 2, 0] rfl)
  · skip
    exact absurd h1 (by rw [wiN (by omega) (by omega) (by omega)]; decide)
theorem kX8_wrong_0 {p : Program} {l : Launch} {e : Env} {R : Room} {s : State} {m : MethodId} {args : Array Value} {below : List Frame} {meth : Method} {c : Code} {H : Heap} {locs : List Loc} {cells slots : Nat} {Q : State → Prop} {cc : ByteArray} {nL index pc : Nat} {own : String} {ls : Array Slot} {rest : List Value} {D : va_G} {K : Nat → ClassId} {a : Nat → Nat} {w n lap : Nat} {op mu ba la en : Nat → Nat} {pr : Nat → Option Nat} {sc : MSc} (S : CallFix p m c cc nL s args lw_tb own) (hI : PI D K (mW K a w n lap op mu ba la en pr sc) s H) (hG : GOK w n lap op mu ba la en pr) (hlink : Cond.methodLink own index yX8_wrong ∈ lw_tb) (hR : RO 6 R cells slots) (hsz : ls.size = nL) (hW : (rest.map fun v => v.category).sum ≤ 8) (hdg : decode cc pc = .ok (.invokevirtual index, 3)) (kk : W p l e R s m args below meth c H locs cells slots Q (F0 m (pc + 3) ls (.int (wrG (lrF pr w lap op mu ba la en) (fun q => q) n 0) :: rest))) : W p l e R s m args below meth c H locs cells slots Q (F0 m pc ls (.int (nI 0) :: .ref (a 0) :: rest)) :=
  kV (As := [.int (nI 0)]) (b := a 0) S (mX8_wrong_0 l hG) hlink tw_821 tw_822 tw_50 tw_823 (by show _ ∧ _ ∧ _ = some 1; decide +kernel) (by decide) hR blP (piU hI) (va_recv hI.2 hI.1 (ci := 8) (q0 := 0) rfl rfl) hsz rfl hW hdg kk

set_option maxHeartbeats 4000000 in
set_option maxRecDepth 100000 in
theorem mX8_wrong_1 (l : Launch) {D : va_G} {K : Nat → ClassId} {a : Nat → Nat} {w n lap : Nat} {op mu ba la en : Nat → Nat} {pr : Nat → Option Nat} {sc : MSc} (hG : GOK w n lap op mu ba la en pr) : Met l yX8_wrong (TWd yX8_wrong cX8_wrong 4 (some .int)) (rmk 6) (va_Pc [.ref (a 0), .int (nI 1)] (fun U => PI D K (mW K a w n lap op mu ba la en pr sc) U U.heap)) (QcRead (wrG (lrF pr w lap op mu ba la en) (lrF pr w lap op mu ba la en) n 0)) 0 0 (fun _ => False) := by
  refine mt_of (by decide +kernel) (Nat.le_of_ble_eq_true rfl) ?_
  intro p e s m below meth c S hr hlk hI ls hl
  have S : CallFix p m c cX8_wrong 4 s ([.ref (a 0), .int (nI 1)] : List Value).toArray lw_tb RX8 := S
  have hl : lv_has ls 4 [(0, .ref (a 0)), (1, .int (nI 1))] := hl
  obtain ⟨gw1, gw2, gn, gl1, gl2, gop, gmu, gba, gla, gen, gpr, gop2, gmu2, gba2, gla2, gme, gbe, gle, gee⟩ := id hG
  refine lv_iload_n S.1 S.2.1 dX8_wrong_0 rfl (lv_at hl 1 rfl) ?_
  refine lv_iconst (v := nI 0) S.1 S.2.1 dX8_wrong_1 (by decide) ?_
  refine lv_iconst (v := nI 1) S.1 S.2.1 dX8_wrong_2 (by decide) ?_
  refine kX8_within S  tw_658 (rok (by decide)) hl.1 (Nat.le_of_ble_eq_true rfl) dX8_wrong_3 ?_
  refine ly_ifne (tgt := 12) S bI_e2 bI_e1 dX8_wrong_6 (by decide) (fun h1 => ?_) (fun h1 => ?_)
  · skip
    refine lv_iconst (v := nI 0) S.1 S.2.1 dX8_wrong_12 (by decide) ?_
    refine lv_istore_n (lv' := [(2, .int (nI 0)), (0, .ref (a 0)), (1, .int (nI 1))]) S.1 S.2.1 dX8_wrong_13 rfl hl (by decide) rfl (fun ls hl => ?_)
    have L14 : ∀ (f14 : Nat) (k : Nat), (k ≤ n) → (wrG (lrF pr w lap op mu ba la en) (lrF pr w lap op mu ba la en) (n - k) k = wrG (lrF pr w lap op mu ba la en) (lrF pr w lap op mu ba la en) n 0) → n - k < f14 → ∀ (ls : Array Slot), lv_has ls 4 [(0, .ref (a 0)), (1, .int (nI 1)), (2, .int (nI k))] → W p l e (rmk 6) s m ([.ref (a 0), .int (nI 1)] : List Value).toArray below meth c s.heap [] 0 0 (MQ below (QcRead (wrG (lrF pr w lap op mu ba la en) (lrF pr w lap op mu ba la en) n 0)) ([.ref (a 0), .int (nI 1)] : List Value).toArray s 0 0 (fun _ => False)) (F0 m 14 ls []) := by
      intro f14
      induction f14 with
      | zero =>
        intro k i2 i3 hm
        exact absurd hm (Nat.not_lt_zero _)
      | succ f14 ih14 =>
        intro k i2 i3 hm14 ls hl
        refine lv_iload_n S.1 S.2.1 dX8_wrong_14 rfl (lv_at hl 2 rfl) ?_
        refine lv_aload_n S.1 S.2.1 dX8_wrong_15 rfl (lv_at hl 0 rfl) ?_
        refine g8 S hI 0 rfl 1 (by decide) tw_608 rfl dX8_wrong_16 ?_
        refine ly_cmge (tgt := 48) S (nI_le1 (by omega) (by omega)) (nI_le2 (by omega) (by omega)) dX8_wrong_19 (by decide) (fun h2 => ?_) (fun h2 => ?_)
        · skip
          refine lv_bipush (v := (-9)) S.1 S.2.1 dX8_wrong_48 (by decide) ?_
          exact rt_i S hr hlk (by rw [← i3, show n - k = 0 by omega]; rfl) dX8_wrong_50
        · skip
          refine lv_aload_n S.1 S.2.1 dX8_wrong_22 rfl (lv_at hl 0 rfl) ?_
          refine lv_iload_n S.1 S.2.1 dX8_wrong_23 rfl (lv_at hl 2 rfl) ?_
          refine kX8_laidRule S hI hG (by omega) tw_824 (rok (by decide)) hl.1 (Nat.le_of_ble_eq_true rfl) dX8_wrong_24 ?_
          have b3 : lrF pr w lap op mu ba la en k ≤ 7 := lrF_le
          refine lv_istore_n (lv' := [(3, .int (nI (lrF pr w lap op mu ba la en k))), (0, .ref (a 0)), (1, .int (nI 1)), (2, .int (nI k))]) S.1 S.2.1 dX8_wrong_27 rfl hl (by decide) rfl (fun ls hl => ?_)
          refine lv_iload_n S.1 S.2.1 dX8_wrong_28 rfl (lv_at hl 0 rfl) ?_
          refine ly_ifeq (tgt := 42) S (nI_z1 (by omega)) (nI_z2 (by omega)) dX8_wrong_29 (by decide) (fun h4 => ?_) (fun h4 => ?_)
          · skip
            refine lv_iinc (v := nI (k + 1)) (lv' := [(2, .int (nI (k + 1))), (3, .int (nI (lrF pr w lap op mu ba la en k))), (0, .ref (a 0)), (1, .int (nI 1))]) S.1 S.2.1 dX8_wrong_42 hl (k := 3) rfl (nJ_in _ _) (by decide) rfl (fun ls hl => ?_)
            refine lv_goto (tgt := 14) S.1 S.2.1 dX8_wrong_45 (by decide) ?_
            exact ih14 (k + 1) (by omega) (by rw [← i3, wrG_s (by omega) h4]) (by omega) _ (lv_sub hl [2, 3, 0] rfl)
          · skip
            refine lv_iload_n S.1 S.2.1 dX8_wrong_32 rfl (lv_at hl 2 rfl) ?_
            refine ly_ifne (tgt := 40) S (nI_z2 (by omega)) (nI_z1 (by omega)) dX8_wrong_33 (by decide) (fun h5 => ?_) (fun h5 => ?_)
            · skip
              refine lv_iload_n S.1 S.2.1 dX8_wrong_40 rfl (lv_at hl 0 rfl) ?_
              exact rt_i S hr hlk (by rw [← i3, wrG_t (by omega) h4]) dX8_wrong_41
            · skip
              exact absurd h5 (by decide)
    exact L14 _ 0 (by omega) rfl (Nat.lt_succ_self _) _ (lv_sub hl [1, 2, 0] rfl)
  · skip
    exact absurd h1 (by rw [wiN (by omega) (by omega) (by omega)]; decide)
theorem kX8_wrong_1 {p : Program} {l : Launch} {e : Env} {R : Room} {s : State} {m : MethodId} {args : Array Value} {below : List Frame} {meth : Method} {c : Code} {H : Heap} {locs : List Loc} {cells slots : Nat} {Q : State → Prop} {cc : ByteArray} {nL index pc : Nat} {own : String} {ls : Array Slot} {rest : List Value} {D : va_G} {K : Nat → ClassId} {a : Nat → Nat} {w n lap : Nat} {op mu ba la en : Nat → Nat} {pr : Nat → Option Nat} {sc : MSc} (S : CallFix p m c cc nL s args lw_tb own) (hI : PI D K (mW K a w n lap op mu ba la en pr sc) s H) (hG : GOK w n lap op mu ba la en pr) (hlink : Cond.methodLink own index yX8_wrong ∈ lw_tb) (hR : RO 6 R cells slots) (hsz : ls.size = nL) (hW : (rest.map fun v => v.category).sum ≤ 8) (hdg : decode cc pc = .ok (.invokevirtual index, 3)) (kk : W p l e R s m args below meth c H locs cells slots Q (F0 m (pc + 3) ls (.int (wrG (lrF pr w lap op mu ba la en) (lrF pr w lap op mu ba la en) n 0) :: rest))) : W p l e R s m args below meth c H locs cells slots Q (F0 m pc ls (.int (nI 1) :: .ref (a 0) :: rest)) :=
  kV (As := [.int (nI 1)]) (b := a 0) S (mX8_wrong_1 l hG) hlink tw_821 tw_822 tw_50 tw_823 (by show _ ∧ _ ∧ _ = some 1; decide +kernel) (by decide) hR blP (piU hI) (va_recv hI.2 hI.1 (ci := 8) (q0 := 0) rfl rfl) hsz rfl hW hdg kk

set_option maxHeartbeats 4000000 in
set_option maxRecDepth 100000 in
theorem mX8_cut (l : Launch) {D : va_G} {K : Nat → ClassId} {a : Nat → Nat} {w n lap : Nat} {op mu ba la en : Nat → Nat} {pr : Nat → Option Nat} {sc : MSc} (hG : GOK w n lap op mu ba la en pr) : Met l yX8_cut (TWd yX8_cut cX8_cut 3 (some .int)) (rmk 5) (va_Pc [.ref (a 0)] (fun U => PI D K (mW K a w n lap op mu ba la en pr sc) U U.heap)) (QcRead (nI (ctF (sumN (fun q => pcF w (op q) (la q) 1) n) (sumN (fun q => pcF w (op q) (la q) 2) n) (sumN (fun q => pcF w (op q) (la q) 3) n) (sumN (fun q => pcF w (op q) (la q) 4) n)))) 0 0 (fun _ => False) := by
  refine mt_of (by decide +kernel) (Nat.le_of_ble_eq_true rfl) ?_
  intro p e s m below meth c S hr hlk hI ls hl
  have S : CallFix p m c cX8_cut 3 s ([.ref (a 0)] : List Value).toArray lw_tb RX8 := S
  have hl : lv_has ls 3 [(0, .ref (a 0))] := hl
  obtain ⟨gw1, gw2, gn, gl1, gl2, gop, gmu, gba, gla, gen, gpr, gop2, gmu2, gba2, gla2, gme, gbe, gle, gee⟩ := id hG
  have p1 := lp_le (op := op) (la := la) (L := 1) gw2 gn
  have p2 := lp_le (op := op) (la := la) (L := 2) gw2 gn
  have p3 := lp_le (op := op) (la := la) (L := 3) gw2 gn
  have p4 := lp_le (op := op) (la := la) (L := 4) gw2 gn
  refine lv_aload_n S.1 S.2.1 dX8_cut_0 rfl (lv_at hl 0 rfl) ?_
  refine lv_iconst (v := nI 1) S.1 S.2.1 dX8_cut_1 (by decide) ?_
  refine kX8_laidPieces S hI hG (by omega) tw_836 (rok (by decide)) hl.1 (Nat.le_of_ble_eq_true rfl) dX8_cut_2 ?_
  have b1 : sumN (fun q => pcF w (op q) (la q) 1) n ≤ 80 := lp_le gw2 gn
  refine lv_aload_n S.1 S.2.1 dX8_cut_5 rfl (lv_at hl 0 rfl) ?_
  refine lv_iconst (v := nI 3) S.1 S.2.1 dX8_cut_6 (by decide) ?_
  refine kX8_laidPieces S hI hG (by omega) tw_836 (rok (by decide)) hl.1 (Nat.le_of_ble_eq_true rfl) dX8_cut_7 ?_
  have b2 : sumN (fun q => pcF w (op q) (la q) 3) n ≤ 80 := lp_le gw2 gn
  refine lv_isub S.1 S.2.1 dX8_cut_10 ?_
  refine lv_istore_n (lv' := [(1, .int ((nI (sumN (fun q => pcF w (op q) (la q) 1) n)) - (nI (sumN (fun q => pcF w (op q) (la q) 3) n)))), (0, .ref (a 0))]) S.1 S.2.1 dX8_cut_11 rfl hl (by decide) rfl (fun ls hl => ?_)
  have J22 : ∀ (ls : Array Slot), lv_has ls 3 [(0, .ref (a 0)), (1, .int (nI ((sumN (fun q => pcF w (op q) (la q) 1) n) - (sumN (fun q => pcF w (op q) (la q) 3) n))))] → W p l e (rmk 5) s m ([.ref (a 0)] : List Value).toArray below meth c s.heap [] 0 0 (MQ below (QcRead (nI (ctF (sumN (fun q => pcF w (op q) (la q) 1) n) (sumN (fun q => pcF w (op q) (la q) 2) n) (sumN (fun q => pcF w (op q) (la q) 3) n) (sumN (fun q => pcF w (op q) (la q) 4) n)))) ([.ref (a 0)] : List Value).toArray s 0 0 (fun _ => False)) (F0 m 22 ls []) := by
    intro  ls hl
    refine lv_aload_n S.1 S.2.1 dX8_cut_22 rfl (lv_at hl 0 rfl) ?_
    refine lv_iconst (v := nI 2) S.1 S.2.1 dX8_cut_23 (by decide) ?_
    refine kX8_laidPieces S hI hG (by omega) tw_836 (rok (by decide)) hl.1 (Nat.le_of_ble_eq_true rfl) dX8_cut_24 ?_
    have b3 : sumN (fun q => pcF w (op q) (la q) 2) n ≤ 80 := lp_le gw2 gn
    refine lv_istore_n (lv' := [(2, .int (nI (sumN (fun q => pcF w (op q) (la q) 2) n))), (0, .ref (a 0)), (1, .int (nI ((sumN (fun q => pcF w (op q) (la q) 1) n) - (sumN (fun q => pcF w (op q) (la q) 3) n))))]) S.1 S.2.1 dX8_cut_27 rfl hl (by decide) rfl (fun ls hl => ?_)
    refine lv_iload_n S.1 S.2.1 dX8_cut_28 rfl (lv_at hl 2 rfl) ?_
    refine lv_iload_n S.1 S.2.1 dX8_cut_29 rfl (lv_at hl 0 rfl) ?_
    refine lv_iconst (v := nI 2) S.1 S.2.1 dX8_cut_30 (by decide) ?_
    refine lv_irem S.1 S.2.1 dX8_cut_31 (by decide) ?_
    refine ly_top (z := nI ((sumN (fun q => pcF w (op q) (la q) 2) n) % 2)) (nI_rem (by omega) (by omega) (by omega)) ?_
    refine lv_iconst (v := nI 1) S.1 S.2.1 dX8_cut_32 (by decide) ?_
    refine ly_cmne (tgt := 40) S (nI_e2 (by omega) (by omega)) (nI_e1 (by omega) (by omega)) dX8_cut_33 (by decide) (fun h4 => ?_) (fun h4 => ?_)
    · skip
      refine lv_iconst (v := nI 0) S.1 S.2.1 dX8_cut_40 (by decide) ?_
      refine lv_isub S.1 S.2.1 dX8_cut_41 ?_
      refine lv_istore_n (lv' := [(1, .int ((nI ((sumN (fun q => pcF w (op q) (la q) 1) n) - (sumN (fun q => pcF w (op q) (la q) 3) n))) - (nI 0))), (2, .int (nI (sumN (fun q => pcF w (op q) (la q) 2) n))), (0, .ref (a 0))]) S.1 S.2.1 dX8_cut_42 rfl hl (by decide) rfl (fun ls hl => ?_)
      refine lv_aload_n S.1 S.2.1 dX8_cut_43 rfl (lv_at hl 2 rfl) ?_
      refine lv_iconst (v := nI 4) S.1 S.2.1 dX8_cut_44 (by decide) ?_
      refine kX8_laidPieces S hI hG (by omega) tw_836 (rok (by decide)) hl.1 (Nat.le_of_ble_eq_true rfl) dX8_cut_45 ?_
      have b5 : sumN (fun q => pcF w (op q) (la q) 4) n ≤ 80 := lp_le gw2 gn
      refine lv_aload_n S.1 S.2.1 dX8_cut_48 rfl (lv_at hl 2 rfl) ?_
      refine lv_iconst (v := nI 3) S.1 S.2.1 dX8_cut_49 (by decide) ?_
      refine kX8_laidPieces S hI hG (by omega) tw_836 (rok (by decide)) hl.1 (Nat.le_of_ble_eq_true rfl) dX8_cut_50 ?_
      have b6 : sumN (fun q => pcF w (op q) (la q) 3) n ≤ 80 := lp_le gw2 gn
      refine lv_iadd S.1 S.2.1 dX8_cut_53 ?_
      refine ly_top (z := nI ((sumN (fun q => pcF w (op q) (la q) 4) n) + (sumN (fun q => pcF w (op q) (la q) 3) n))) (nI_add _ _) ?_
      refine lv_iload_n S.1 S.2.1 dX8_cut_54 rfl (lv_at hl 1 rfl) ?_
      refine lv_iconst (v := nI 1) S.1 S.2.1 dX8_cut_55 (by decide) ?_
      refine lv_iadd S.1 S.2.1 dX8_cut_56 ?_
      refine ly_top (z := nI ((sumN (fun q => pcF w (op q) (la q) 2) n) + 1)) (nI_add _ _) ?_
      refine lv_iconst (v := nI 2) S.1 S.2.1 dX8_cut_57 (by decide) ?_
      refine lv_idiv S.1 S.2.1 dX8_cut_58 (by decide) ?_
      refine ly_top (z := nI (((sumN (fun q => pcF w (op q) (la q) 2) n) + 1) / 2)) (pk_div (by omega) (by omega) (by omega)) ?_
      refine lv_iadd S.1 S.2.1 dX8_cut_59 ?_
      refine ly_top (z := nI (((sumN (fun q => pcF w (op q) (la q) 4) n) + (sumN (fun q => pcF w (op q) (la q) 3) n)) + (((sumN (fun q => pcF w (op q) (la q) 2) n) + 1) / 2))) (nI_add _ _) ?_
      refine lv_iload_n S.1 S.2.1 dX8_cut_60 rfl (lv_at hl 0 rfl) ?_
      refine ly_ifle (tgt := 72) S (fun q => q) (fun q => q) dX8_cut_61 (by decide) (fun h7 => ?_) (fun h7 => ?_)
      · skip
        have le1 := sub_le0 (by omega) (by omega) h7
        refine lv_iconst (v := nI 0) S.1 S.2.1 dX8_cut_72 (by decide) ?_
        refine lv_iadd S.1 S.2.1 dX8_cut_73 ?_
        refine ly_top (z := nI ((((sumN (fun q => pcF w (op q) (la q) 4) n) + (sumN (fun q => pcF w (op q) (la q) 3) n)) + (((sumN (fun q => pcF w (op q) (la q) 2) n) + 1) / 2)) + 0)) (nI_add _ _) ?_
        exact rt_i S hr hlk (congrArg nI (by unfold ctF; omega)) dX8_cut_74
      · skip
        have gt1 := sub_gt0 (by omega) (by omega) h7
        rw [show (nI ((sumN (fun q => pcF w (op q) (la q) 1) n) - (sumN (fun q => pcF w (op q) (la q) 3) n))) - (nI 0) = nI (((sumN (fun q => pcF w (op q) (la q) 1) n) - (sumN (fun q => pcF w (op q) (la q) 3) n)) - 0) from pk_sub (by omega)] at hl
        refine lv_iload_n S.1 S.2.1 dX8_cut_64 rfl (lv_at hl 0 rfl) ?_
        refine lv_iconst (v := nI 3) S.1 S.2.1 dX8_cut_65 (by decide) ?_
        refine lv_iadd S.1 S.2.1 dX8_cut_66 ?_
        refine ly_top (z := nI ((((sumN (fun q => pcF w (op q) (la q) 1) n) - (sumN (fun q => pcF w (op q) (la q) 3) n)) - 0) + 3)) (nI_add _ _) ?_
        refine lv_iconst (v := nI 4) S.1 S.2.1 dX8_cut_67 (by decide) ?_
        refine lv_idiv S.1 S.2.1 dX8_cut_68 (by decide) ?_
        refine ly_top (z := nI (((((sumN (fun q => pcF w (op q) (la q) 1) n) - (sumN (fun q => pcF w (op q) (la q) 3) n)) - 0) + 3) / 4)) (pk_div (by omega) (by omega) (by omega)) ?_
        refine lv_goto (tgt := 73) S.1 S.2.1 dX8_cut_69 (by decide) ?_
        refine lv_iadd S.1 S.2.1 dX8_cut_73 ?_
        refine ly_top (z := nI ((((sumN (fun q => pcF w (op q) (la q) 4) n) + (sumN (fun q => pcF w (op q) (la q) 3) n)) + (((sumN (fun q => pcF w (op q) (la q) 2) n) + 1) / 2)) + (((((sumN (fun q => pcF w (op q) (la q) 1) n) - (sumN (fun q => pcF w (op q) (la q) 3) n)) - 0) + 3) / 4))) (nI_add _ _) ?_
        exact rt_i S hr hlk (congrArg nI (by unfold ctF; omega)) dX8_cut_74
    · skip
      refine lv_iconst (v := nI 2) S.1 S.2.1 dX8_cut_36 (by decide) ?_
      refine lv_goto (tgt := 41) S.1 S.2.1 dX8_cut_37 (by decide) ?_
      refine lv_isub S.1 S.2.1 dX8_cut_41 ?_
      refine lv_istore_n (lv' := [(1, .int ((nI ((sumN (fun q => pcF w (op q) (la q) 1) n) - (sumN (fun q => pcF w (op q) (la q) 3) n))) - (nI 2))), (2, .int (nI (sumN (fun q => pcF w (op q) (la q) 2) n))), (0, .ref (a 0))]) S.1 S.2.1 dX8_cut_42 rfl hl (by decide) rfl (fun ls hl => ?_)
      refine lv_aload_n S.1 S.2.1 dX8_cut_43 rfl (lv_at hl 2 rfl) ?_
      refine lv_iconst (v := nI 4) S.1 S.2.1 dX8_cut_44 (by decide) ?_
      refine kX8_laidPieces S hI hG (by omega) tw_836 (rok (by decide)) hl.1 (Nat.le_of_ble_eq_true rfl) dX8_cut_45 ?_
      have b8 : sumN (fun q => pcF w (op q) (la q) 4) n ≤ 80 := lp_le gw2 gn
      refine lv_aload_n S.1 S.2.1 dX8_cut_48 rfl (lv_at hl 2 rfl) ?_
      refine lv_iconst (v := nI 3) S.1 S.2.1 dX8_cut_49 (by decide) ?_
      refine kX8_laidPieces S hI hG (by omega) tw_836 (rok (by decide)) hl.1 (Nat.le_of_ble_eq_true rfl) dX8_cut_50 ?_
      have b9 : sumN (fun q => pcF w (op q) (la q) 3) n ≤ 80 := lp_le gw2 gn
      refine lv_iadd S.1 S.2.1 dX8_cut_53 ?_
      refine ly_top (z := nI ((sumN (fun q => pcF w (op q) (la q) 4) n) + (sumN (fun q => pcF w (op q) (la q) 3) n))) (nI_add _ _) ?_
      refine lv_iload_n S.1 S.2.1 dX8_cut_54 rfl (lv_at hl 1 rfl) ?_
      refine lv_iconst (v := nI 1) S.1 S.2.1 dX8_cut_55 (by decide) ?_
      refine lv_iadd S.1 S.2.1 dX8_cut_56 ?_
      refine ly_top (z := nI ((sumN (fun q => pcF w (op q) (la q) 2) n) + 1)) (nI_add _ _) ?_
      refine lv_iconst (v := nI 2) S.1 S.2.1 dX8_cut_57 (by decide) ?_
      refine lv_idiv S.1 S.2.1 dX8_cut_58 (by decide) ?_
      refine ly_top (z := nI (((sumN (fun q => pcF w (op q) (la q) 2) n) + 1) / 2)) (pk_div (by omega) (by omega) (by omega)) ?_
      refine lv_iadd S.1 S.2.1 dX8_cut_59 ?_
      refine ly_top (z := nI (((sumN (fun q => pcF w (op q) (la q) 4) n) + (sumN (fun q => pcF w (op q) (la q) 3) n)) + (((sumN (fun q => pcF w (op q) (la q) 2) n) + 1) / 2))) (nI_add _ _) ?_
      refine lv_iload_n S.1 S.2.1 dX8_cut_60 rfl (lv_at hl 0 rfl) ?_
      refine ly_ifle (tgt := 72) S (fun q => q) (fun q => q) dX8_cut_61 (by decide) (fun h10 => ?_) (fun h10 => ?_)
      · skip
        have le1 := sub_le0 (by omega) (by omega) h10
        refine lv_iconst (v := nI 0) S.1 S.2.1 dX8_cut_72 (by decide) ?_
        refine lv_iadd S.1 S.2.1 dX8_cut_73 ?_
        refine ly_top (z := nI ((((sumN (fun q => pcF w (op q) (la q) 4) n) + (sumN (fun q => pcF w (op q) (la q) 3) n)) + (((sumN (fun q => pcF w (op q) (la q) 2) n) + 1) / 2)) + 0)) (nI_add _ _) ?_
        exact rt_i S hr hlk (congrArg nI (by unfold ctF; omega)) dX8_cut_74
      · skip
        have gt1 := sub_gt0 (by omega) (by omega) h10
        rw [show (nI ((sumN (fun q => pcF w (op q) (la q) 1) n) - (sumN (fun q => pcF w (op q) (la q) 3) n))) - (nI 2) = nI (((sumN (fun q => pcF w (op q) (la q) 1) n) - (sumN (fun q => pcF w (op q) (la q) 3) n)) - 2) from pk_sub (by omega)] at hl
        refine lv_iload_n S.1 S.2.1 dX8_cut_64 rfl (lv_at hl 0 rfl) ?_
        refine lv_iconst (v := nI 3) S.1 S.2.1 dX8_cut_65 (by decide) ?_
        refine lv_iadd S.1 S.2.1 dX8_cut_66 ?_
        refine ly_top (z := nI ((((sumN (fun q => pcF w (op q) (la q) 1) n) - (sumN (fun q => pcF w (op q) (la q) 3) n)) - 2) + 3)) (nI_add _ _) ?_
        refine lv_iconst (v := nI 4) S.1 S.2.1 dX8_cut_67 (by decide) ?_
        refine lv_idiv S.1 S.2.1 dX8_cut_68 (by decide) ?_
        refine ly_top (z := nI (((((sumN (fun q => pcF w (op q) (la q) 1) n) - (sumN (fun q => pcF w (op q) (la q) 3) n)) - 2) + 3) / 4)) (pk_div (by omega) (by omega) (by omega)) ?_
        refine lv_goto (tgt := 73) S.1 S.2.1 dX8_cut_69 (by decide) ?_
        refine lv_iadd S.1 S.2.1 dX8_cut_73 ?_
        refine ly_top (z := nI ((((sumN (fun q => pcF w (op q) (la q) 4) n) + (sumN (fun q => pcF w (op q) (la q) 3) n)) + (((sumN (fun q => pcF w (op q) (la q) 2) n) + 1) / 2)) + (((((sumN (fun q => pcF w (op q) (la q) 1) n) - (sumN (fun q => pcF w (op q) (la q) 3) n)) - 2) + 3) / 4))) (nI_add _ _) ?_
        exact rt_i S hr hlk (congrArg nI (by unfold ctF; omega)) dX8_cut_74
  refine lv_iload_n S.1 S.2.1 dX8_cut_12 rfl (lv_at hl 0 rfl) ?_
  refine ly_ifge (tgt := 20) S (fun q => q) (fun q => q) dX8_cut_13 (by decide) (fun h11 => ?_) (fun h11 => ?_)
  · skip
    rw [show (nI (sumN (fun q => pcF w (op q) (la q) 1) n)) - (nI (sumN (fun q => pcF w (op q) (la q) 3) n)) = nI ((sumN (fun q => pcF w (op q) (la q) 1) n) - (sumN (fun q => pcF w (op q) (la q) 3) n)) from pk_sub (sub_ge1 (by omega) (by omega) h11)] at hl
    refine lv_iload_n S.1 S.2.1 dX8_cut_20 rfl (lv_at hl 0 rfl) ?_
    refine lv_istore_n (lv' := [(1, .int (nI ((sumN (fun q => pcF w (op q) (la q) 1) n) - (sumN (fun q => pcF w (op q) (la q) 3) n)))), (0, .ref (a 0))]) S.1 S.2.1 dX8_cut_21 rfl hl (by decide) rfl (fun ls hl => ?_)
    exact J22  _ (lv_sub hl [1, 0] rfl)
  · skip
    have lt1 := sub_lt1 (by omega) (by omega) h11
    refine lv_iconst (v := nI 0) S.1 S.2.1 dX8_cut_16 (by decide) ?_
    refine ly_top (z := (nI ((sumN (fun q => pcF w (op q) (la q) 1) n) - (sumN (fun q => pcF w (op q) (la q) 3) n)))) (by rw [Nat.sub_eq_zero_of_le (by omega)]) ?_
    refine lv_goto (tgt := 21) S.1 S.2.1 dX8_cut_17 (by decide) ?_
    refine lv_istore_n (lv' := [(1, .int (nI ((sumN (fun q => pcF w (op q) (la q) 1) n) - (sumN (fun q => pcF w (op q) (la q) 3) n)))), (0, .ref (a 0))]) S.1 S.2.1 dX8_cut_21 rfl hl (by decide) rfl (fun ls hl => ?_)
    exact J22  _ (lv_sub hl [1, 0] rfl)
theorem kX8_cut {p : Program} {l : Launch} {e : Env} {R : Room} {s : State} {m : MethodId} {args : Array Value} {below : List Frame} {meth : Method} {c : Code} {H : Heap} {locs : List Loc} {cells slots : Nat} {Q : State → Prop} {cc : ByteArray} {nL index pc : Nat} {own : String} {ls : Array Slot} {rest : List Value} {D : va_G} {K : Nat → ClassId} {a : Nat → Nat} {w n lap : Nat} {op mu ba la en : Nat → Nat} {pr : Nat → Option Nat} {sc : MSc} (S : CallFix p m c cc nL s args lw_tb own) (hI : PI D K (mW K a w n lap op mu ba la en pr sc) s H) (hG : GOK w n lap op mu ba la en pr) (hlink : Cond.methodLink own index yX8_cut ∈ lw_tb) (hR : RO 5 R cells slots) (hsz : ls.size = nL) (hW : (rest.map fun v => v.category).sum ≤ 8) (hdg : decode cc pc = .ok (.invokevirtual index, 3)) (kk : W p l e R s m args below meth c H locs cells slots Q (F0 m (pc + 3) ls (.int (nI (ctF (sumN (fun q => pcF w (op q) (la q) 1) n) (sumN (fun q => pcF w (op q) (la q) 2) n) (sumN (fun q => pcF w (op q) (la q) 3) n) (sumN (fun q => pcF w (op q) (la q) 4) n))) :: rest))) : W p l e R s m args below meth c H locs cells slots Q (F0 m pc ls (.ref (a 0) :: rest)) :=
  kV (As := []) (b := a 0) S (mX8_cut l hG) hlink tw_845 tw_846 tw_50 tw_847 (by show _ ∧ _ ∧ _ = some 0; decide +kernel) (by decide) hR blP (piU hI) (va_recv hI.2 hI.1 (ci := 8) (q0 := 0) rfl rfl) hsz rfl hW hdg kk

set_option maxHeartbeats 4000000 in
set_option maxRecDepth 100000 in
theorem mX8_sumOf_op (l : Launch) {D : va_G} {K : Nat → ClassId} {a : Nat → Nat} {w n lap : Nat} {op mu ba la en : Nat → Nat} {pr : Nat → Option Nat} {sc : MSc} (hG : GOK w n lap op mu ba la en pr) : Met l yX8_sumOf (TWd yX8_sumOf cX8_sumOf 4 (some .int)) (rmk 1) (va_Pc [.ref (a 0), .ref (a 1)] (fun U => PI D K (mW K a w n lap op mu ba la en pr sc) U U.heap)) (QcRead (nI (sumN (fun q => popG 31 (op q)) n))) 0 0 (fun _ => False) := by
  refine mt_of (by decide +kernel) (Nat.le_of_ble_eq_true rfl) ?_
  intro p e s m below meth c S hr hlk hI ls hl
  have S : CallFix p m c cX8_sumOf 4 s ([.ref (a 0), .ref (a 1)] : List Value).toArray lw_tb RX8 := S
  have hl : lv_has ls 4 [(0, .ref (a 0)), (1, .ref (a 1))] := hl
  obtain ⟨gw1, gw2, gn, gl1, gl2, gop, gmu, gba, gla, gen, gpr, gop2, gmu2, gba2, gla2, gme, gbe, gle, gee⟩ := id hG
  refine lv_iconst (v := nI 0) S.1 S.2.1 dX8_sumOf_0 (by decide) ?_
  refine ly_top (z := (nI (sumN (fun q => popG 31 (op q)) 0))) rfl ?_
  refine lv_istore_n (lv' := [(2, .int (nI (sumN (fun q => popG 31 (op q)) 0))), (0, .ref (a 0)), (1, .ref (a 1))]) S.1 S.2.1 dX8_sumOf_1 rfl hl (by decide) rfl (fun ls hl => ?_)
  refine lv_iconst (v := nI 0) S.1 S.2.1 dX8_sumOf_2 (by decide) ?_
  refine lv_istore_n (lv' := [(3, .int (nI 0)), (2, .int (nI (sumN (fun q => popG 31 (op q)) 0))), (0, .ref (a 0)), (1, .ref (a 1))]) S.1 S.2.1 dX8_sumOf_3 rfl hl (by decide) rfl (fun ls hl => ?_)
  have L4 : ∀ (f4 : Nat) (k : Nat), (k ≤ n) → n - k < f4 → ∀ (ls : Array Slot), lv_has ls 4 [(0, .ref (a 0)), (1, .ref (a 1)), (2, .int (nI (sumN (fun q => popG 31 (op q)) k))), (3, .int (nI k))] → W p l e (rmk 1) s m ([.ref (a 0), .ref (a 1)] : List Value).toArray below meth c s.heap [] 0 0 (MQ below (QcRead (nI (sumN (fun q => popG 31 (op q)) n))) ([.ref (a 0), .ref (a 1)] : List Value).toArray s 0 0 (fun _ => False)) (F0 m 4 ls []) := by
    intro f4
    induction f4 with
    | zero =>
      intro k i2 hm
      exact absurd hm (Nat.not_lt_zero _)
    | succ f4 ih4 =>
      intro k i2 hm4 ls hl
      have o1 := gop k
      refine lv_iload_n S.1 S.2.1 dX8_sumOf_4 rfl (lv_at hl 3 rfl) ?_
      refine lv_aload_n S.1 S.2.1 dX8_sumOf_5 rfl (lv_at hl 0 rfl) ?_
      refine g8 S hI 0 rfl 1 (by decide) tw_608 rfl dX8_sumOf_6 ?_
      refine ly_cmge (tgt := 27) S (nI_le1 (by omega) (by omega)) (nI_le2 (by omega) (by omega)) dX8_sumOf_9 (by decide) (fun h1 => ?_) (fun h1 => ?_)
      · skip
        refine lv_iload_n S.1 S.2.1 dX8_sumOf_27 rfl (lv_at hl 2 rfl) ?_
        exact rt_i S hr hlk (by rw [show k = n by omega]) dX8_sumOf_28
      · skip
        refine lv_iload_n S.1 S.2.1 dX8_sumOf_12 rfl (lv_at hl 2 rfl) ?_
        refine lv_aload_n S.1 S.2.1 dX8_sumOf_13 rfl (lv_at hl 1 rfl) ?_
        refine lv_iload_n S.1 S.2.1 dX8_sumOf_14 rfl (lv_at hl 3 rfl) ?_
        refine ly_iald (v := (nI (op k))) S hI 1 rfl (by omega) (by decide) rfl dX8_sumOf_15 ?_
        refine kX8_sizeOf S (by omega) tw_856 (rok (by decide)) hl.1 (Nat.le_of_ble_eq_true rfl) dX8_sumOf_16 ?_
        have b2 : popG 31 (op k) ≤ 31 := popG_le _ _
        refine lv_iadd S.1 S.2.1 dX8_sumOf_19 ?_
        refine ly_top (z := nI ((sumN (fun q => popG 31 (op q)) k) + (popG 31 (op k)))) (nI_add _ _) ?_
        refine ly_top (z := (nI (sumN (fun q => popG 31 (op q)) (k + 1)))) rfl ?_
        refine lv_istore_n (lv' := [(2, .int (nI (sumN (fun q => popG 31 (op q)) (k + 1)))), (0, .ref (a 0)), (1, .ref (a 1)), (3, .int (nI k))]) S.1 S.2.1 dX8_sumOf_20 rfl hl (by decide) rfl (fun ls hl => ?_)
        refine lv_iinc (v := nI (k + 1)) (lv' := [(3, .int (nI (k + 1))), (2, .int (nI (sumN (fun q => popG 31 (op q)) (k + 1)))), (0, .ref (a 0)), (1, .ref (a 1))]) S.1 S.2.1 dX8_sumOf_21 hl (k := 3) rfl (nJ_in _ _) (by decide) rfl (fun ls hl => ?_)
        refine lv_goto (tgt := 4) S.1 S.2.1 dX8_sumOf_24 (by decide) ?_
        exact ih4 (k + 1) (by omega) (by omega) _ (lv_sub hl [2, 3, 1, 0] rfl)
  exact L4 _ 0 (by omega) (Nat.lt_succ_self _) _ (lv_sub hl [2, 3, 1, 0] rfl)
theorem kX8_sumOf_op {p : Program} {l : Launch} {e : Env} {R : Room} {s : State} {m : MethodId} {args : Array Value} {below : List Frame} {meth : Method} {c : Code} {H : Heap} {locs : List Loc} {cells slots : Nat} {Q : State → Prop} {cc : ByteArray} {nL index pc : Nat} {own : String} {ls : Array Slot} {rest : List Value} {D : va_G} {K : Nat → ClassId} {a : Nat → Nat} {w n lap : Nat} {op mu ba la en : Nat → Nat} {pr : Nat → Option Nat} {sc : MSc} (S : CallFix p m c cc nL s args lw_tb own) (hI : PI D K (mW K a w n lap op mu ba la en pr sc) s H) (hG : GOK w n lap op mu ba la en pr) (hlink : Cond.methodLink own index yX8_sumOf ∈ lw_tb) (hR : RO 1 R cells slots) (hsz : ls.size = nL) (hW : (rest.map fun v => v.category).sum ≤ 8) (hdg : decode cc pc = .ok (.invokevirtual index, 3)) (kk : W p l e R s m args below meth c H locs cells slots Q (F0 m (pc + 3) ls (.int (nI (sumN (fun q => popG 31 (op q)) n)) :: rest))) : W p l e R s m args below meth c H locs cells slots Q (F0 m pc ls (.ref (a 1) :: .ref (a 0) :: rest)) :=
  kV (As := [.ref (a 1)]) (b := a 0) S (mX8_sumOf_op l hG) hlink tw_854 tw_39 tw_50 tw_855 (by show _ ∧ _ ∧ _ = some 1; decide +kernel) (by decide) hR blP (piU hI) (va_recv hI.2 hI.1 (ci := 8) (q0 := 0) rfl rfl) hsz rfl hW hdg kk

set_option maxHeartbeats 4000000 in
set_option maxRecDepth 100000 in
theorem mX8_sumOf_la (l : Launch) {D : va_G} {K : Nat → ClassId} {a : Nat → Nat} {w n lap : Nat} {op mu ba la en : Nat → Nat} {pr : Nat → Option Nat} {sc : MSc} (hG : GOK w n lap op mu ba la en pr) : Met l yX8_sumOf (TWd yX8_sumOf cX8_sumOf 4 (some .int)) (rmk 1) (va_Pc [.ref (a 0), .ref (a 4)] (fun U => PI D K (mW K a w n lap op mu ba la en pr sc) U U.heap)) (QcRead (nI (sumN (fun q => popG 31 (la q)) n))) 0 0 (fun _ => False) := by
  refine mt_of (by decide +kernel) (Nat.le_of_ble_eq_true rfl) ?_
  intro p e s m below meth c S hr hlk hI ls hl
  have S : CallFix p m c cX8_sumOf 4 s ([.ref (a 0), .ref (a 4)] : List Value).toArray lw_tb RX8 := S
  have hl : lv_has ls 4 [(0, .ref (a 0)), (1, .ref (a 4))] := hl
  obtain ⟨gw1, gw2, gn, gl1, gl2, gop, gmu, gba, gla, gen, gpr, gop2, gmu2, gba2, gla2, gme, gbe, gle, gee⟩ := id hG
  refine lv_iconst (v := nI 0) S.1 S.2.1 dX8_sumOf_0 (by decide) ?_
  refine ly_top (z := (nI (sumN (fun q => popG 31 (la q)) 0))) rfl ?_
  refine lv_istore_n (lv' := [(2, .int (nI (sumN (fun q => popG 31 (la q)) 0))), (0, .ref (a 0)), (1, .ref (a 4))]) S.1 S.2.1 dX8_sumOf_1 rfl hl (by decide) rfl (fun ls hl => ?_)
  refine lv_iconst (v := nI 0) S.1 S.2.1 dX8_sumOf_2 (by decide) ?_
  refine lv_istore_n (lv' := [(3, .int (nI 0)), (2, .int (nI (sumN (fun q => popG 31 (la q)) 0))), (0, .ref (a 0)), (1, .ref (a 4))]) S.1 S.2.1 dX8_sumOf_3 rfl hl (by decide) rfl (fun ls hl => ?_)
  have L4 : ∀ (f4 : Nat) (k : Nat), (k ≤ n) → n - k < f4 → ∀ (ls : Array Slot), lv_has ls 4 [(0, .ref (a 0)), (1, .ref (a 4)), (2, .int (nI (sumN (fun q => popG 31 (la q)) k))), (3, .int (nI k))] → W p l e (rmk 1) s m ([.ref (a 0), .ref (a 4)] : List Value).toArray below meth c s.heap [] 0 0 (MQ below (QcRead (nI (sumN (fun q => popG 31 (la q)) n))) ([.ref (a 0), .ref (a 4)] : List Value).toArray s 0 0 (fun _ => False)) (F0 m 4 ls []) := by
    intro f4
    induction f4 with
    | zero =>
      intro k i2 hm
      exact absurd hm (Nat.not_lt_zero _)
    | succ f4 ih4 =>
      intro k i2 hm4 ls hl
      have o1 := gla k
      refine lv_iload_n S.1 S.2.1 dX8_sumOf_4 rfl (lv_at hl 3 rfl) ?_
      refine lv_aload_n S.1 S.2.1 dX8_sumOf_5 rfl (lv_at hl 0 rfl) ?_
      refine g8 S hI 0 rfl 1 (by decide) tw_608 rfl dX8_sumOf_6 ?_
      refine ly_cmge (tgt := 27) S (nI_le1 (by omega) (by omega)) (nI_le2 (by omega) (by omega)) dX8_sumOf_9 (by decide) (fun h1 => ?_) (fun h1 => ?_)
      · skip
        refine lv_iload_n S.1 S.2.1 dX8_sumOf_27 rfl (lv_at hl 2 rfl) ?_
        exact rt_i S hr hlk (by rw [show k = n by omega]) dX8_sumOf_28
      · skip
        refine lv_iload_n S.1 S.2.1 dX8_sumOf_12 rfl (lv_at hl 2 rfl) ?_
        refine lv_aload_n S.1 S.2.1 dX8_sumOf_13 rfl (lv_at hl 1 rfl) ?_
        refine lv_iload_n S.1 S.2.1 dX8_sumOf_14 rfl (lv_at hl 3 rfl) ?_
        refine ly_iald (v := (nI (la k))) S hI 4 rfl (by omega) (by decide) rfl dX8_sumOf_15 ?_
        refine kX8_sizeOf S (by omega) tw_856 (rok (by decide)) hl.1 (Nat.le_of_ble_eq_true rfl) dX8_sumOf_16 ?_
        have b2 : popG 31 (la k) ≤ 31 := popG_le _ _
        refine lv_iadd S.1 S.2.1 dX8_sumOf_19 ?_
        refine ly_top (z := nI ((sumN (fun q => popG 31 (la q)) k) + (popG 31 (la k)))) (nI_add _ _) ?_
        refine ly_top (z := (nI (sumN (fun q => popG 31 (la q)) (k + 1)))) rfl ?_
        refine lv_istore_n (lv' := [(2, .int (nI (sumN (fun q => popG 31 (la q)) (k + 1)))), (0, .ref (a 0)), (1, .ref (a 4)), (3, .int (nI k))]) S.1 S.2.1 dX8_sumOf_20 rfl hl (by decide) rfl (fun ls hl => ?_)
        refine lv_iinc (v := nI (k + 1)) (lv' := [(3, .int (nI (k + 1))), (2, .int (nI (sumN (fun q => popG 31 (la q)) (k + 1)))), (0, .ref (a 0)), (1, .ref (a 4))]) S.1 S.2.1 dX8_sumOf_21 hl (k := 3) rfl (nJ_in _ _) (by decide) rfl (fun ls hl => ?_)
        refine lv_goto (tgt := 4) S.1 S.2.1 dX8_sumOf_24 (by decide) ?_
        exact ih4 (k + 1) (by omega) (by omega) _ (lv_sub hl [2, 3, 1, 0] rfl)
  exact L4 _ 0 (by omega) (Nat.lt_succ_self _) _ (lv_sub hl [2, 3, 1, 0] rfl)
theorem kX8_sumOf_la {p : Program} {l : Launch} {e : Env} {R : Room} {s : State} {m : MethodId} {args : Array Value} {below : List Frame} {meth : Method} {c : Code} {H : Heap} {locs : List Loc} {cells slots : Nat} {Q : State → Prop} {cc : ByteArray} {nL index pc : Nat} {own : String} {ls : Array Slot} {rest : List Value} {D : va_G} {K : Nat → ClassId} {a : Nat → Nat} {w n lap : Nat} {op mu ba la en : Nat → Nat} {pr : Nat → Option Nat} {sc : MSc} (S : CallFix p m c cc nL s args lw_tb own) (hI : PI D K (mW K a w n lap op mu ba la en pr sc) s H) (hG : GOK w n lap op mu ba la en pr) (hlink : Cond.methodLink own index yX8_sumOf ∈ lw_tb) (hR : RO 1 R cells slots) (hsz : ls.size = nL) (hW : (rest.map fun v => v.category).sum ≤ 8) (hdg : decode cc pc = .ok (.invokevirtual index, 3)) (kk : W p l e R s m args below meth c H locs cells slots Q (F0 m (pc + 3) ls (.int (nI (sumN (fun q => popG 31 (la q)) n)) :: rest))) : W p l e R s m args below meth c H locs cells slots Q (F0 m pc ls (.ref (a 4) :: .ref (a 0) :: rest)) :=
  kV (As := [.ref (a 4)]) (b := a 0) S (mX8_sumOf_la l hG) hlink tw_854 tw_39 tw_50 tw_855 (by show _ ∧ _ ∧ _ = some 1; decide +kernel) (by decide) hR blP (piU hI) (va_recv hI.2 hI.1 (ci := 8) (q0 := 0) rfl rfl) hsz rfl hW hdg kk

set_option maxHeartbeats 4000000 in
set_option maxRecDepth 100000 in
theorem mX8_allPieces (l : Launch) {D : va_G} {K : Nat → ClassId} {a : Nat → Nat} {w n lap : Nat} {op mu ba la en : Nat → Nat} {pr : Nat → Option Nat} {sc : MSc} (hG : GOK w n lap op mu ba la en pr) : Met l yX8_allPieces (TWd yX8_allPieces cX8_allPieces 3 (some .int)) (rmk 5) (va_Pc [.ref (a 0)] (fun U => PI D K (mW K a w n lap op mu ba la en pr sc) U U.heap)) (QcRead (nI (sumN (fun q => sumN (fun z => pcF w (op z) (la z) (q + 1)) n) 10))) 0 0 (fun _ => False) := by
  refine mt_of (by decide +kernel) (Nat.le_of_ble_eq_true rfl) ?_
  intro p e s m below meth c S hr hlk hI ls hl
  have S : CallFix p m c cX8_allPieces 3 s ([.ref (a 0)] : List Value).toArray lw_tb RX8 := S
  have hl : lv_has ls 3 [(0, .ref (a 0))] := hl
  obtain ⟨gw1, gw2, gn, gl1, gl2, gop, gmu, gba, gla, gen, gpr, gop2, gmu2, gba2, gla2, gme, gbe, gle, gee⟩ := id hG
  refine lv_iconst (v := nI 0) S.1 S.2.1 dX8_allPieces_0 (by decide) ?_
  refine ly_top (z := (nI (sumN (fun q => sumN (fun z => pcF w (op z) (la z) (q + 1)) n) 0))) rfl ?_
  refine lv_istore_n (lv' := [(1, .int (nI (sumN (fun q => sumN (fun z => pcF w (op z) (la z) (q + 1)) n) 0))), (0, .ref (a 0))]) S.1 S.2.1 dX8_allPieces_1 rfl hl (by decide) rfl (fun ls hl => ?_)
  refine lv_iconst (v := nI 1) S.1 S.2.1 dX8_allPieces_2 (by decide) ?_
  refine lv_istore_n (lv' := [(2, .int (nI 1)), (1, .int (nI (sumN (fun q => sumN (fun z => pcF w (op z) (la z) (q + 1)) n) 0))), (0, .ref (a 0))]) S.1 S.2.1 dX8_allPieces_3 rfl hl (by decide) rfl (fun ls hl => ?_)
  have L4 : ∀ (f4 : Nat) (k : Nat), (k ≤ 10) → 10 - k < f4 → ∀ (ls : Array Slot), lv_has ls 3 [(0, .ref (a 0)), (1, .int (nI (sumN (fun q => sumN (fun z => pcF w (op z) (la z) (q + 1)) n) k))), (2, .int (nI (k + 1)))] → W p l e (rmk 5) s m ([.ref (a 0)] : List Value).toArray below meth c s.heap [] 0 0 (MQ below (QcRead (nI (sumN (fun q => sumN (fun z => pcF w (op z) (la z) (q + 1)) n) 10))) ([.ref (a 0)] : List Value).toArray s 0 0 (fun _ => False)) (F0 m 4 ls []) := by
    intro f4
    induction f4 with
    | zero =>
      intro k i2 hm
      exact absurd hm (Nat.not_lt_zero _)
    | succ f4 ih4 =>
      intro k i2 hm4 ls hl
      refine lv_iload_n S.1 S.2.1 dX8_allPieces_4 rfl (lv_at hl 2 rfl) ?_
      refine lv_bipush (v := nI 10) S.1 S.2.1 dX8_allPieces_5 (by decide) ?_
      refine ly_cmgt (tgt := 24) S (nI_l1 (by omega) (by omega)) (nI_l2 (by omega) (by omega)) dX8_allPieces_7 (by decide) (fun h1 => ?_) (fun h1 => ?_)
      · skip
        refine lv_iload_n S.1 S.2.1 dX8_allPieces_24 rfl (lv_at hl 1 rfl) ?_
        exact rt_i S hr hlk (by rw [show k = 10 by omega]) dX8_allPieces_25
      · skip
        refine lv_iload_n S.1 S.2.1 dX8_allPieces_10 rfl (lv_at hl 1 rfl) ?_
        refine lv_aload_n S.1 S.2.1 dX8_allPieces_11 rfl (lv_at hl 0 rfl) ?_
        refine lv_iload_n S.1 S.2.1 dX8_allPieces_12 rfl (lv_at hl 2 rfl) ?_
        refine kX8_laidPieces S hI hG (by omega) tw_836 (rok (by decide)) hl.1 (Nat.le_of_ble_eq_true rfl) dX8_allPieces_13 ?_
        have b2 : sumN (fun q => pcF w (op q) (la q) (k + 1)) n ≤ 80 := lp_le gw2 gn
        refine lv_iadd S.1 S.2.1 dX8_allPieces_16 ?_
        refine ly_top (z := nI ((sumN (fun q => sumN (fun z => pcF w (op z) (la z) (q + 1)) n) k) + (sumN (fun q => pcF w (op q) (la q) (k + 1)) n))) (nI_add _ _) ?_
        refine ly_top (z := (nI (sumN (fun q => sumN (fun z => pcF w (op z) (la z) (q + 1)) n) (k + 1)))) rfl ?_
        refine lv_istore_n (lv' := [(1, .int (nI (sumN (fun q => sumN (fun z => pcF w (op z) (la z) (q + 1)) n) (k + 1)))), (0, .ref (a 0)), (2, .int (nI (k + 1)))]) S.1 S.2.1 dX8_allPieces_17 rfl hl (by decide) rfl (fun ls hl => ?_)
        refine lv_iinc (v := nI ((k + 1) + 1)) (lv' := [(2, .int (nI ((k + 1) + 1))), (1, .int (nI (sumN (fun q => sumN (fun z => pcF w (op z) (la z) (q + 1)) n) (k + 1)))), (0, .ref (a 0))]) S.1 S.2.1 dX8_allPieces_18 hl (k := 2) rfl (nJ_in _ _) (by decide) rfl (fun ls hl => ?_)
        refine lv_goto (tgt := 4) S.1 S.2.1 dX8_allPieces_21 (by decide) ?_
        exact ih4 (k + 1) (by omega) (by omega) _ (lv_sub hl [2, 1, 0] rfl)
  exact L4 _ 0 (by omega) (Nat.lt_succ_self _) _ (lv_sub hl [2, 1, 0] rfl)
theorem kX8_allPieces {p : Program} {l : Launch} {e : Env} {R : Room} {s : State} {m : MethodId} {args : Array Value} {below : List Frame} {meth : Method} {c : Code} {H : Heap} {locs : List Loc} {cells slots : Nat} {Q : State → Prop} {cc : ByteArray} {nL index pc : Nat} {own : String} {ls : Array Slot} {rest : List Value} {D : va_G} {K : Nat → ClassId} {a : Nat → Nat} {w n lap : Nat} {op mu ba la en : Nat → Nat} {pr : Nat → Option Nat} {sc : MSc} (S : CallFix p m c cc nL s args lw_tb own) (hI : PI D K (mW K a w n lap op mu ba la en pr sc) s H) (hG : GOK w n lap op mu ba la en pr) (hlink : Cond.methodLink own index yX8_allPieces ∈ lw_tb) (hR : RO 5 R cells slots) (hsz : ls.size = nL) (hW : (rest.map fun v => v.category).sum ≤ 8) (hdg : decode cc pc = .ok (.invokevirtual index, 3)) (kk : W p l e R s m args below meth c H locs cells slots Q (F0 m (pc + 3) ls (.int (nI (sumN (fun q => sumN (fun z => pcF w (op z) (la z) (q + 1)) n) 10)) :: rest))) : W p l e R s m args below meth c H locs cells slots Q (F0 m pc ls (.ref (a 0) :: rest)) :=
  kV (As := []) (b := a 0) S (mX8_allPieces l hG) hlink tw_861 tw_40 tw_50 tw_862 (by show _ ∧ _ ∧ _ = some 0; decide +kernel) (by decide) hR blP (piU hI) (va_recv hI.2 hI.1 (ci := 8) (q0 := 0) rfl rfl) hsz rfl hW hdg kk

set_option maxHeartbeats 4000000 in
set_option maxRecDepth 100000 in
theorem mX8_many_b (l : Launch) {D : va_G} {K : Nat → ClassId} {a : Nat → Nat} {w n lap : Nat} {op mu ba la en : Nat → Nat} {pr : Nat → Option Nat} {sc : MSc} {wh : Int32} (hG : GOK w n lap op mu ba la en pr) (hw : wh.toInt < 0 ∨ 5 < wh.toInt) : Met l yX8_many (TWd yX8_many cX8_many 2 (some .int)) (rmk 6) (va_Pc [.ref (a 0), .int wh] (fun U => PI D K (mW K a w n lap op mu ba la en pr sc) U U.heap)) (QcRead ((-2))) 0 0 (fun _ => False) := by
  refine mt_of (by decide +kernel) (Nat.le_of_ble_eq_true rfl) ?_
  intro p e s m below meth c S hr hlk hI ls hl
  have S : CallFix p m c cX8_many 2 s ([.ref (a 0), .int wh] : List Value).toArray lw_tb RX8 := S
  have hl : lv_has ls 2 [(0, .ref (a 0)), (1, .int wh)] := hl
  obtain ⟨gw1, gw2, gn, gl1, gl2, gop, gmu, gba, gla, gen, gpr, gop2, gmu2, gba2, gla2, gme, gbe, gle, gee⟩ := id hG
  refine lv_iload_n S.1 S.2.1 dX8_many_0 rfl (lv_at hl 1 rfl) ?_
  refine lv_tableOut (tgt := 78) S.1 S.2.1 dX8_many_1 hw (by decide) ?_
  refine lv_bipush (v := (-2)) S.1 S.2.1 dX8_many_78 (by decide) ?_
  exact rt_i S hr hlk rfl dX8_many_80
theorem kX8_many_b {p : Program} {l : Launch} {e : Env} {R : Room} {s : State} {m : MethodId} {args : Array Value} {below : List Frame} {meth : Method} {c : Code} {H : Heap} {locs : List Loc} {cells slots : Nat} {Q : State → Prop} {cc : ByteArray} {nL index pc : Nat} {own : String} {ls : Array Slot} {rest : List Value} {D : va_G} {K : Nat → ClassId} {a : Nat → Nat} {w n lap : Nat} {op mu ba la en : Nat → Nat} {pr : Nat → Option Nat} {sc : MSc} {wh : Int32} (S : CallFix p m c cc nL s args lw_tb own) (hI : PI D K (mW K a w n lap op mu ba la en pr sc) s H) (hG : GOK w n lap op mu ba la en pr) (hw : wh.toInt < 0 ∨ 5 < wh.toInt) (hlink : Cond.methodLink own index yX8_many ∈ lw_tb) (hR : RO 6 R cells slots) (hsz : ls.size = nL) (hW : (rest.map fun v => v.category).sum ≤ 8) (hdg : decode cc pc = .ok (.invokevirtual index, 3)) (kk : W p l e R s m args below meth c H locs cells slots Q (F0 m (pc + 3) ls (.int ((-2)) :: rest))) : W p l e R s m args below meth c H locs cells slots Q (F0 m pc ls (.int wh :: .ref (a 0) :: rest)) :=
  kV (As := [.int wh]) (b := a 0) S (mX8_many_b l hG hw) hlink tw_849 tw_850 tw_50 tw_851 (by show _ ∧ _ ∧ _ = some 1; decide +kernel) (by decide) hR blP (piU hI) (va_recv hI.2 hI.1 (ci := 8) (q0 := 0) rfl rfl) hsz rfl hW hdg kk

set_option maxHeartbeats 4000000 in
set_option maxRecDepth 100000 in
theorem mX8_many_0 (l : Launch) {D : va_G} {K : Nat → ClassId} {a : Nat → Nat} {w n lap : Nat} {op mu ba la en : Nat → Nat} {pr : Nat → Option Nat} {sc : MSc} (hG : GOK w n lap op mu ba la en pr) : Met l yX8_many (TWd yX8_many cX8_many 2 (some .int)) (rmk 6) (va_Pc [.ref (a 0), .int (nI 0)] (fun U => PI D K (mW K a w n lap op mu ba la en pr sc) U U.heap)) (QcRead (nI n)) 0 0 (fun _ => False) := by
  refine mt_of (by decide +kernel) (Nat.le_of_ble_eq_true rfl) ?_
  intro p e s m below meth c S hr hlk hI ls hl
  have S : CallFix p m c cX8_many 2 s ([.ref (a 0), .int (nI 0)] : List Value).toArray lw_tb RX8 := S
  have hl : lv_has ls 2 [(0, .ref (a 0)), (1, .int (nI 0))] := hl
  obtain ⟨gw1, gw2, gn, gl1, gl2, gop, gmu, gba, gla, gen, gpr, gop2, gmu2, gba2, gla2, gme, gbe, gle, gee⟩ := id hG
  refine lv_iload_n S.1 S.2.1 dX8_many_0 rfl (lv_at hl 1 rfl) ?_
  refine lv_tableIn (tgt := 40) (off := 39) S.1 S.2.1 dX8_many_1 (by decide) (by decide) (by decide) (by decide) ?_
  refine lv_aload_n S.1 S.2.1 dX8_many_40 rfl (lv_at hl 0 rfl) ?_
  refine g8 S hI 0 rfl 1 (by decide) tw_608 rfl dX8_many_41 ?_
  exact rt_i S hr hlk rfl dX8_many_44
theorem kX8_many_0 {p : Program} {l : Launch} {e : Env} {R : Room} {s : State} {m : MethodId} {args : Array Value} {below : List Frame} {meth : Method} {c : Code} {H : Heap} {locs : List Loc} {cells slots : Nat} {Q : State → Prop} {cc : ByteArray} {nL index pc : Nat} {own : String} {ls : Array Slot} {rest : List Value} {D : va_G} {K : Nat → ClassId} {a : Nat → Nat} {w n lap : Nat} {op mu ba la en : Nat → Nat} {pr : Nat → Option Nat} {sc : MSc} (S : CallFix p m c cc nL s args lw_tb own) (hI : PI D K (mW K a w n lap op mu ba la en pr sc) s H) (hG : GOK w n lap op mu ba la en pr) (hlink : Cond.methodLink own index yX8_many ∈ lw_tb) (hR : RO 6 R cells slots) (hsz : ls.size = nL) (hW : (rest.map fun v => v.category).sum ≤ 8) (hdg : decode cc pc = .ok (.invokevirtual index, 3)) (kk : W p l e R s m args below meth c H locs cells slots Q (F0 m (pc + 3) ls (.int (nI n) :: rest))) : W p l e R s m args below meth c H locs cells slots Q (F0 m pc ls (.int (nI 0) :: .ref (a 0) :: rest)) :=
  kV (As := [.int (nI 0)]) (b := a 0) S (mX8_many_0 l hG) hlink tw_849 tw_850 tw_50 tw_851 (by show _ ∧ _ ∧ _ = some 1; decide +kernel) (by decide) hR blP (piU hI) (va_recv hI.2 hI.1 (ci := 8) (q0 := 0) rfl rfl) hsz rfl hW hdg kk

set_option maxHeartbeats 4000000 in
set_option maxRecDepth 100000 in
theorem mX8_many_1 (l : Launch) {D : va_G} {K : Nat → ClassId} {a : Nat → Nat} {w n lap : Nat} {op mu ba la en : Nat → Nat} {pr : Nat → Option Nat} {sc : MSc} (hG : GOK w n lap op mu ba la en pr) : Met l yX8_many (TWd yX8_many cX8_many 2 (some .int)) (rmk 6) (va_Pc [.ref (a 0), .int (nI 1)] (fun U => PI D K (mW K a w n lap op mu ba la en pr sc) U U.heap)) (QcRead (nI w)) 0 0 (fun _ => False) := by
  refine mt_of (by decide +kernel) (Nat.le_of_ble_eq_true rfl) ?_
  intro p e s m below meth c S hr hlk hI ls hl
  have S : CallFix p m c cX8_many 2 s ([.ref (a 0), .int (nI 1)] : List Value).toArray lw_tb RX8 := S
  have hl : lv_has ls 2 [(0, .ref (a 0)), (1, .int (nI 1))] := hl
  obtain ⟨gw1, gw2, gn, gl1, gl2, gop, gmu, gba, gla, gen, gpr, gop2, gmu2, gba2, gla2, gme, gbe, gle, gee⟩ := id hG
  refine lv_iload_n S.1 S.2.1 dX8_many_0 rfl (lv_at hl 1 rfl) ?_
  refine lv_tableIn (tgt := 45) (off := 44) S.1 S.2.1 dX8_many_1 (by decide) (by decide) (by decide) (by decide) ?_
  refine lv_aload_n S.1 S.2.1 dX8_many_45 rfl (lv_at hl 0 rfl) ?_
  refine g8 S hI 0 rfl 0 (by decide) tw_607 rfl dX8_many_46 ?_
  exact rt_i S hr hlk rfl dX8_many_49
theorem kX8_many_1 {p : Program} {l : Launch} {e : Env} {R : Room} {s : State} {m : MethodId} {args : Array Value} {below : List Frame} {meth : Method} {c : Code} {H : Heap} {locs : List Loc} {cells slots : Nat} {Q : State → Prop} {cc : ByteArray} {nL index pc : Nat} {own : String} {ls : Array Slot} {rest : List Value} {D : va_G} {K : Nat → ClassId} {a : Nat → Nat} {w n lap : Nat} {op mu ba la en : Nat → Nat} {pr : Nat → Option Nat} {sc : MSc} (S : CallFix p m c cc nL s args lw_tb own) (hI : PI D K (mW K a w n lap op mu ba la en pr sc) s H) (hG : GOK w n lap op mu ba la en pr) (hlink : Cond.methodLink own index yX8_many ∈ lw_tb) (hR : RO 6 R cells slots) (hsz : ls.size = nL) (hW : (rest.map fun v => v.category).sum ≤ 8) (hdg : decode cc pc = .ok (.invokevirtual index, 3)) (kk : W p l e R s m args below meth c H locs cells slots Q (F0 m (pc + 3) ls (.int (nI w) :: rest))) : W p l e R s m args below meth c H locs cells slots Q (F0 m pc ls (.int (nI 1) :: .ref (a 0) :: rest)) :=
  kV (As := [.int (nI 1)]) (b := a 0) S (mX8_many_1 l hG) hlink tw_849 tw_850 tw_50 tw_851 (by show _ ∧ _ ∧ _ = some 1; decide +kernel) (by decide) hR blP (piU hI) (va_recv hI.2 hI.1 (ci := 8) (q0 := 0) rfl rfl) hsz rfl hW hdg kk

set_option maxHeartbeats 4000000 in
set_option maxRecDepth 100000 in
theorem mX8_many_2 (l : Launch) {D : va_G} {K : Nat → ClassId} {a : Nat → Nat} {w n lap : Nat} {op mu ba la en : Nat → Nat} {pr : Nat → Option Nat} {sc : MSc} (hG : GOK w n lap op mu ba la en pr) : Met l yX8_many (TWd yX8_many cX8_many 2 (some .int)) (rmk 6) (va_Pc [.ref (a 0), .int (nI 2)] (fun U => PI D K (mW K a w n lap op mu ba la en pr sc) U U.heap)) (QcRead (nI lap)) 0 0 (fun _ => False) := by
  refine mt_of (by decide +kernel) (Nat.le_of_ble_eq_true rfl) ?_
  intro p e s m below meth c S hr hlk hI ls hl
  have S : CallFix p m c cX8_many 2 s ([.ref (a 0), .int (nI 2)] : List Value).toArray lw_tb RX8 := S
  have hl : lv_has ls 2 [(0, .ref (a 0)), (1, .int (nI 2))] := hl
  obtain ⟨gw1, gw2, gn, gl1, gl2, gop, gmu, gba, gla, gen, gpr, gop2, gmu2, gba2, gla2, gme, gbe, gle, gee⟩ := id hG
  refine lv_iload_n S.1 S.2.1 dX8_many_0 rfl (lv_at hl 1 rfl) ?_
  refine lv_tableIn (tgt := 50) (off := 49) S.1 S.2.1 dX8_many_1 (by decide) (by decide) (by decide) (by decide) ?_
  refine lv_aload_n S.1 S.2.1 dX8_many_50 rfl (lv_at hl 0 rfl) ?_
  refine g8 S hI 0 rfl 8 (by decide) tw_615 rfl dX8_many_51 ?_
  exact rt_i S hr hlk rfl dX8_many_54
theorem kX8_many_2 {p : Program} {l : Launch} {e : Env} {R : Room} {s : State} {m : MethodId} {args : Array Value} {below : List Frame} {meth : Method} {c : Code} {H : Heap} {locs : List Loc} {cells slots : Nat} {Q : State → Prop} {cc : ByteArray} {nL index pc : Nat} {own : String} {ls : Array Slot} {rest : List Value} {D : va_G} {K : Nat → ClassId} {a : Nat → Nat} {w n lap : Nat} {op mu ba la en : Nat → Nat} {pr : Nat → Option Nat} {sc : MSc} (S : CallFix p m c cc nL s args lw_tb own) (hI : PI D K (mW K a w n lap op mu ba la en pr sc) s H) (hG : GOK w n lap op mu ba la en pr) (hlink : Cond.methodLink own index yX8_many ∈ lw_tb) (hR : RO 6 R cells slots) (hsz : ls.size = nL) (hW : (rest.map fun v => v.category).sum ≤ 8) (hdg : decode cc pc = .ok (.invokevirtual index, 3)) (kk : W p l e R s m args below meth c H locs cells slots Q (F0 m (pc + 3) ls (.int (nI lap) :: rest))) : W p l e R s m args below meth c H locs cells slots Q (F0 m pc ls (.int (nI 2) :: .ref (a 0) :: rest)) :=
  kV (As := [.int (nI 2)]) (b := a 0) S (mX8_many_2 l hG) hlink tw_849 tw_850 tw_50 tw_851 (by show _ ∧ _ ∧ _ = some 1; decide +kernel) (by decide) hR blP (piU hI) (va_recv hI.2 hI.1 (ci := 8) (q0 := 0) rfl rfl) hsz rfl hW hdg kk

set_option maxHeartbeats 4000000 in
set_option maxRecDepth 100000 in
theorem mX8_many_3 (l : Launch) {D : va_G} {K : Nat → ClassId} {a : Nat → Nat} {w n lap : Nat} {op mu ba la en : Nat → Nat} {pr : Nat → Option Nat} {sc : MSc} (hG : GOK w n lap op mu ba la en pr) : Met l yX8_many (TWd yX8_many cX8_many 2 (some .int)) (rmk 6) (va_Pc [.ref (a 0), .int (nI 3)] (fun U => PI D K (mW K a w n lap op mu ba la en pr sc) U U.heap)) (QcRead (nI (sumN (fun q => popG 31 (op q)) n))) 0 0 (fun _ => False) := by
  refine mt_of (by decide +kernel) (Nat.le_of_ble_eq_true rfl) ?_
  intro p e s m below meth c S hr hlk hI ls hl
  have S : CallFix p m c cX8_many 2 s ([.ref (a 0), .int (nI 3)] : List Value).toArray lw_tb RX8 := S
  have hl : lv_has ls 2 [(0, .ref (a 0)), (1, .int (nI 3))] := hl
  obtain ⟨gw1, gw2, gn, gl1, gl2, gop, gmu, gba, gla, gen, gpr, gop2, gmu2, gba2, gla2, gme, gbe, gle, gee⟩ := id hG
  refine lv_iload_n S.1 S.2.1 dX8_many_0 rfl (lv_at hl 1 rfl) ?_
  refine lv_tableIn (tgt := 55) (off := 54) S.1 S.2.1 dX8_many_1 (by decide) (by decide) (by decide) (by decide) ?_
  refine lv_aload_n S.1 S.2.1 dX8_many_55 rfl (lv_at hl 0 rfl) ?_
  refine lv_aload_n S.1 S.2.1 dX8_many_56 rfl (lv_at hl 0 rfl) ?_
  refine g8 S hI 0 rfl 2 (by decide) tw_609 rfl dX8_many_57 ?_
  refine kX8_sumOf_op S hI hG tw_852 (rok (by decide)) hl.1 (Nat.le_of_ble_eq_true rfl) dX8_many_60 ?_
  exact rt_i S hr hlk rfl dX8_many_63
theorem kX8_many_3 {p : Program} {l : Launch} {e : Env} {R : Room} {s : State} {m : MethodId} {args : Array Value} {below : List Frame} {meth : Method} {c : Code} {H : Heap} {locs : List Loc} {cells slots : Nat} {Q : State → Prop} {cc : ByteArray} {nL index pc : Nat} {own : String} {ls : Array Slot} {rest : List Value} {D : va_G} {K : Nat → ClassId} {a : Nat → Nat} {w n lap : Nat} {op mu ba la en : Nat → Nat} {pr : Nat → Option Nat} {sc : MSc} (S : CallFix p m c cc nL s args lw_tb own) (hI : PI D K (mW K a w n lap op mu ba la en pr sc) s H) (hG : GOK w n lap op mu ba la en pr) (hlink : Cond.methodLink own index yX8_many ∈ lw_tb) (hR : RO 6 R cells slots) (hsz : ls.size = nL) (hW : (rest.map fun v => v.category).sum ≤ 8) (hdg : decode cc pc = .ok (.invokevirtual index, 3)) (kk : W p l e R s m args below meth c H locs cells slots Q (F0 m (pc + 3) ls (.int (nI (sumN (fun q => popG 31 (op q)) n)) :: rest))) : W p l e R s m args below meth c H locs cells slots Q (F0 m pc ls (.int (nI 3) :: .ref (a 0) :: rest)) :=
  kV (As := [.int (nI 3)]) (b := a 0) S (mX8_many_3 l hG) hlink tw_849 tw_850 tw_50 tw_851 (by show _ ∧ _ ∧ _ = some 1; decide +kernel) (by decide) hR blP (piU hI) (va_recv hI.2 hI.1 (ci := 8) (q0 := 0) rfl rfl) hsz rfl hW hdg kk

set_option maxHeartbeats 4000000 in
set_option maxRecDepth 100000 in
theorem mX8_many_4 (l : Launch) {D : va_G} {K : Nat → ClassId} {a : Nat → Nat} {w n lap : Nat} {op mu ba la en : Nat → Nat} {pr : Nat → Option Nat} {sc : MSc} (hG : GOK w n lap op mu ba la en pr) : Met l yX8_many (TWd yX8_many cX8_many 2 (some .int)) (rmk 6) (va_Pc [.ref (a 0), .int (nI 4)] (fun U => PI D K (mW K a w n lap op mu ba la en pr sc) U U.heap)) (QcRead (nI (sumN (fun q => sumN (fun z => pcF w (op z) (la z) (q + 1)) n) 10))) 0 0 (fun _ => False) := by
  refine mt_of (by decide +kernel) (Nat.le_of_ble_eq_true rfl) ?_
  intro p e s m below meth c S hr hlk hI ls hl
  have S : CallFix p m c cX8_many 2 s ([.ref (a 0), .int (nI 4)] : List Value).toArray lw_tb RX8 := S
  have hl : lv_has ls 2 [(0, .ref (a 0)), (1, .int (nI 4))] := hl
  obtain ⟨gw1, gw2, gn, gl1, gl2, gop, gmu, gba, gla, gen, gpr, gop2, gmu2, gba2, gla2, gme, gbe, gle, gee⟩ := id hG
  refine lv_iload_n S.1 S.2.1 dX8_many_0 rfl (lv_at hl 1 rfl) ?_
  refine lv_tableIn (tgt := 64) (off := 63) S.1 S.2.1 dX8_many_1 (by decide) (by decide) (by decide) (by decide) ?_
  refine lv_aload_n S.1 S.2.1 dX8_many_64 rfl (lv_at hl 0 rfl) ?_
  refine kX8_allPieces S hI hG tw_859 (rok (by decide)) hl.1 (Nat.le_of_ble_eq_true rfl) dX8_many_65 ?_
  exact rt_i S hr hlk rfl dX8_many_68
theorem kX8_many_4 {p : Program} {l : Launch} {e : Env} {R : Room} {s : State} {m : MethodId} {args : Array Value} {below : List Frame} {meth : Method} {c : Code} {H : Heap} {locs : List Loc} {cells slots : Nat} {Q : State → Prop} {cc : ByteArray} {nL index pc : Nat} {own : String} {ls : Array Slot} {rest : List Value} {D : va_G} {K : Nat → ClassId} {a : Nat → Nat} {w n lap : Nat} {op mu ba la en : Nat → Nat} {pr : Nat → Option Nat} {sc : MSc} (S : CallFix p m c cc nL s args lw_tb own) (hI : PI D K (mW K a w n lap op mu ba la en pr sc) s H) (hG : GOK w n lap op mu ba la en pr) (hlink : Cond.methodLink own index yX8_many ∈ lw_tb) (hR : RO 6 R cells slots) (hsz : ls.size = nL) (hW : (rest.map fun v => v.category).sum ≤ 8) (hdg : decode cc pc = .ok (.invokevirtual index, 3)) (kk : W p l e R s m args below meth c H locs cells slots Q (F0 m (pc + 3) ls (.int (nI (sumN (fun q => sumN (fun z => pcF w (op z) (la z) (q + 1)) n) 10)) :: rest))) : W p l e R s m args below meth c H locs cells slots Q (F0 m pc ls (.int (nI 4) :: .ref (a 0) :: rest)) :=
  kV (As := [.int (nI 4)]) (b := a 0) S (mX8_many_4 l hG) hlink tw_849 tw_850 tw_50 tw_851 (by show _ ∧ _ ∧ _ = some 1; decide +kernel) (by decide) hR blP (piU hI) (va_recv hI.2 hI.1 (ci := 8) (q0 := 0) rfl rfl) hsz rfl hW hdg kk

set_option maxHeartbeats 4000000 in
set_option maxRecDepth 100000 in
theorem mX8_many_5 (l : Launch) {D : va_G} {K : Nat → ClassId} {a : Nat → Nat} {w n lap : Nat} {op mu ba la en : Nat → Nat} {pr : Nat → Option Nat} {sc : MSc} (hG : GOK w n lap op mu ba la en pr) : Met l yX8_many (TWd yX8_many cX8_many 2 (some .int)) (rmk 6) (va_Pc [.ref (a 0), .int (nI 5)] (fun U => PI D K (mW K a w n lap op mu ba la en pr sc) U U.heap)) (QcRead (nI (sumN (fun q => popG 31 (la q)) n))) 0 0 (fun _ => False) := by
  refine mt_of (by decide +kernel) (Nat.le_of_ble_eq_true rfl) ?_
  intro p e s m below meth c S hr hlk hI ls hl
  have S : CallFix p m c cX8_many 2 s ([.ref (a 0), .int (nI 5)] : List Value).toArray lw_tb RX8 := S
  have hl : lv_has ls 2 [(0, .ref (a 0)), (1, .int (nI 5))] := hl
  obtain ⟨gw1, gw2, gn, gl1, gl2, gop, gmu, gba, gla, gen, gpr, gop2, gmu2, gba2, gla2, gme, gbe, gle, gee⟩ := id hG
  refine lv_iload_n S.1 S.2.1 dX8_many_0 rfl (lv_at hl 1 rfl) ?_
  refine lv_tableIn (tgt := 69) (off := 68) S.1 S.2.1 dX8_many_1 (by decide) (by decide) (by decide) (by decide) ?_
  refine lv_aload_n S.1 S.2.1 dX8_many_69 rfl (lv_at hl 0 rfl) ?_
  refine lv_aload_n S.1 S.2.1 dX8_many_70 rfl (lv_at hl 0 rfl) ?_
  refine g8 S hI 0 rfl 5 (by decide) tw_612 rfl dX8_many_71 ?_
  refine kX8_sumOf_la S hI hG tw_852 (rok (by decide)) hl.1 (Nat.le_of_ble_eq_true rfl) dX8_many_74 ?_
  exact rt_i S hr hlk rfl dX8_many_77
theorem kX8_many_5 {p : Program} {l : Launch} {e : Env} {R : Room} {s : State} {m : MethodId} {args : Array Value} {below : List Frame} {meth : Method} {c : Code} {H : Heap} {locs : List Loc} {cells slots : Nat} {Q : State → Prop} {cc : ByteArray} {nL index pc : Nat} {own : String} {ls : Array Slot} {rest : List Value} {D : va_G} {K : Nat → ClassId} {a : Nat → Nat} {w n lap : Nat} {op mu ba la en : Nat → Nat} {pr : Nat → Option Nat} {sc : MSc} (S : CallFix p m c cc nL s args lw_tb own) (hI : PI D K (mW K a w n lap op mu ba la en pr sc) s H) (hG : GOK w n lap op mu ba la en pr) (hlink : Cond.methodLink own index yX8_many ∈ lw_tb) (hR : RO 6 R cells slots) (hsz : ls.size = nL) (hW : (rest.map fun v => v.category).sum ≤ 8) (hdg : decode cc pc = .ok (.invokevirtual index, 3)) (kk : W p l e R s m args below meth c H locs cells slots Q (F0 m (pc + 3) ls (.int (nI (sumN (fun q => popG 31 (la q)) n)) :: rest))) : W p l e R s m args below meth c H locs cells slots Q (F0 m pc ls (.int (nI 5) :: .ref (a 0) :: rest)) :=
  kV (As := [.int (nI 5)]) (b := a 0) S (mX8_many_5 l hG) hlink tw_849 tw_850 tw_50 tw_851 (by show _ ∧ _ ∧ _ = some 1; decide +kernel) (by decide) hR blP (piU hI) (va_recv hI.2 hI.1 (ci := 8) (q0 := 0) rfl rfl) hsz rfl hW hdg kk

set_option maxHeartbeats 4000000 in
set_option maxRecDepth 100000 in
theorem mX8_lay_a (l : Launch) {D : va_G} {K : Nat → ClassId} {a : Nat → Nat} {w n lap : Nat} {op mu ba la en : Nat → Nat} {pr : Nat → Option Nat} {sc : MSc} {v : Int32} {z : Int32} (hG : GOK w n lap op mu ba la en pr) (hv : wiI v 0 (nI n - 1) = false) : Met l yX8_lay (TWd yX8_lay cX8_lay 4 (some .int)) (rmk 2) (va_Pc [.ref (a 0), .int v, .int z] (fun U => PI D K (mW K a w n lap op mu ba la en pr sc) U U.heap)) (QcRead ((-1))) 0 0 (fun _ => False) := by
  refine mt_of (by decide +kernel) (Nat.le_of_ble_eq_true rfl) ?_
  intro p e s m below meth c S hr hlk hI ls hl
  have S : CallFix p m c cX8_lay 4 s ([.ref (a 0), .int v, .int z] : List Value).toArray lw_tb RX8 := S
  have hl : lv_has ls 4 [(0, .ref (a 0)), (1, .int v), (2, .int z)] := hl
  obtain ⟨gw1, gw2, gn, gl1, gl2, gop, gmu, gba, gla, gen, gpr, gop2, gmu2, gba2, gla2, gme, gbe, gle, gee⟩ := id hG
  refine lv_aload_n S.1 S.2.1 dX8_lay_0 rfl (lv_at hl 0 rfl) ?_
  refine lv_iload_n S.1 S.2.1 dX8_lay_1 rfl (lv_at hl 1 rfl) ?_
  refine kX8_isCourse S hI hG tw_673 (rok (by decide)) hl.1 (Nat.le_of_ble_eq_true rfl) dX8_lay_2 ?_
  refine ly_ifne (tgt := 10) S bI_e2 bI_e1 dX8_lay_5 (by decide) (fun h1 => ?_) (fun h1 => ?_)
  · skip
    exact absurd h1 (by rw [hv]; decide)
  · skip
    refine lv_iconst (v := (-1)) S.1 S.2.1 dX8_lay_8 (by decide) ?_
    exact rt_i S hr hlk rfl dX8_lay_9
theorem kX8_lay_a {p : Program} {l : Launch} {e : Env} {R : Room} {s : State} {m : MethodId} {args : Array Value} {below : List Frame} {meth : Method} {c : Code} {H : Heap} {locs : List Loc} {cells slots : Nat} {Q : State → Prop} {cc : ByteArray} {nL index pc : Nat} {own : String} {ls : Array Slot} {rest : List Value} {D : va_G} {K : Nat → ClassId} {a : Nat → Nat} {w n lap : Nat} {op mu ba la en : Nat → Nat} {pr : Nat → Option Nat} {sc : MSc} {v : Int32} {z : Int32} (S : CallFix p m c cc nL s args lw_tb own) (hI : PI D K (mW K a w n lap op mu ba la en pr sc) s H) (hG : GOK w n lap op mu ba la en pr) (hv : wiI v 0 (nI n - 1) = false) (hlink : Cond.methodLink own index yX8_lay ∈ lw_tb) (hR : RO 2 R cells slots) (hsz : ls.size = nL) (hW : (rest.map fun v => v.category).sum ≤ 8) (hdg : decode cc pc = .ok (.invokevirtual index, 3)) (kk : W p l e R s m args below meth c H locs cells slots Q (F0 m (pc + 3) ls (.int ((-1)) :: rest))) : W p l e R s m args below meth c H locs cells slots Q (F0 m pc ls (.int z :: .int v :: .ref (a 0) :: rest)) :=
  kV (As := [.int v, .int z]) (b := a 0) S (mX8_lay_a l hG hv) hlink tw_809 tw_810 tw_50 tw_811 (by show _ ∧ _ ∧ _ = some 2; decide +kernel) (by decide) hR blP (piU hI) (va_recv hI.2 hI.1 (ci := 8) (q0 := 0) rfl rfl) hsz rfl hW hdg kk

set_option maxHeartbeats 4000000 in
set_option maxRecDepth 100000 in
theorem mX8_lay_b (l : Launch) {D : va_G} {K : Nat → ClassId} {a : Nat → Nat} {w n lap : Nat} {op mu ba la en : Nat → Nat} {pr : Nat → Option Nat} {sc : MSc} {ci : Nat} {z : Int32} (hG : GOK w n lap op mu ba la en pr) (hc : ci < n) (hz : plI w z = false) : Met l yX8_lay (TWd yX8_lay cX8_lay 4 (some .int)) (rmk 2) (va_Pc [.ref (a 0), .int (nI ci), .int z] (fun U => PI D K (mW K a w n lap op mu ba la en pr sc) U U.heap)) (QcRead ((-2))) 0 0 (fun _ => False) := by
  refine mt_of (by decide +kernel) (Nat.le_of_ble_eq_true rfl) ?_
  intro p e s m below meth c S hr hlk hI ls hl
  have S : CallFix p m c cX8_lay 4 s ([.ref (a 0), .int (nI ci), .int z] : List Value).toArray lw_tb RX8 := S
  have hl : lv_has ls 4 [(0, .ref (a 0)), (1, .int (nI ci)), (2, .int z)] := hl
  obtain ⟨gw1, gw2, gn, gl1, gl2, gop, gmu, gba, gla, gen, gpr, gop2, gmu2, gba2, gla2, gme, gbe, gle, gee⟩ := id hG
  refine lv_aload_n S.1 S.2.1 dX8_lay_0 rfl (lv_at hl 0 rfl) ?_
  refine lv_iload_n S.1 S.2.1 dX8_lay_1 rfl (lv_at hl 1 rfl) ?_
  refine kX8_isCourse S hI hG tw_673 (rok (by decide)) hl.1 (Nat.le_of_ble_eq_true rfl) dX8_lay_2 ?_
  refine ly_ifne (tgt := 10) S bI_e2 bI_e1 dX8_lay_5 (by decide) (fun h1 => ?_) (fun h1 => ?_)
  · skip
    refine lv_aload_n S.1 S.2.1 dX8_lay_10 rfl (lv_at hl 0 rfl) ?_
    refine lv_iload_n S.1 S.2.1 dX8_lay_11 rfl (lv_at hl 2 rfl) ?_
    refine kX8_arePlaces S hI hG tw_681 (rok (by decide)) hl.1 (Nat.le_of_ble_eq_true rfl) dX8_lay_12 ?_
    refine ly_ifne (tgt := 21) S bI_e2 bI_e1 dX8_lay_15 (by decide) (fun h2 => ?_) (fun h2 => ?_)
    · skip
      exact absurd h2 (by rw [hz]; decide)
    · skip
      refine lv_bipush (v := (-2)) S.1 S.2.1 dX8_lay_18 (by decide) ?_
      exact rt_i S hr hlk rfl dX8_lay_20
  · skip
    exact absurd h1 (by rw [wiC (by omega) (by omega)]; decide)
theorem kX8_lay_b {p : Program} {l : Launch} {e : Env} {R : Room} {s : State} {m : MethodId} {args : Array Value} {below : List Frame} {meth : Method} {c : Code} {H : Heap} {locs : List Loc} {cells slots : Nat} {Q : State → Prop} {cc : ByteArray} {nL index pc : Nat} {own : String} {ls : Array Slot} {rest : List Value} {D : va_G} {K : Nat → ClassId} {a : Nat → Nat} {w n lap : Nat} {op mu ba la en : Nat → Nat} {pr : Nat → Option Nat} {sc : MSc} {ci : Nat} {z : Int32} (S : CallFix p m c cc nL s args lw_tb own) (hI : PI D K (mW K a w n lap op mu ba la en pr sc) s H) (hG : GOK w n lap op mu ba la en pr) (hc : ci < n) (hz : plI w z = false) (hlink : Cond.methodLink own index yX8_lay ∈ lw_tb) (hR : RO 2 R cells slots) (hsz : ls.size = nL) (hW : (rest.map fun v => v.category).sum ≤ 8) (hdg : decode cc pc = .ok (.invokevirtual index, 3)) (kk : W p l e R s m args below meth c H locs cells slots Q (F0 m (pc + 3) ls (.int ((-2)) :: rest))) : W p l e R s m args below meth c H locs cells slots Q (F0 m pc ls (.int z :: .int (nI ci) :: .ref (a 0) :: rest)) :=
  kV (As := [.int (nI ci), .int z]) (b := a 0) S (mX8_lay_b l hG hc hz) hlink tw_809 tw_810 tw_50 tw_811 (by show _ ∧ _ ∧ _ = some 2; decide +kernel) (by decide) hR blP (piU hI) (va_recv hI.2 hI.1 (ci := 8) (q0 := 0) rfl rfl) hsz rfl hW hdg kk

set_option maxHeartbeats 4000000 in
set_option maxRecDepth 100000 in
theorem mX8_lay_c (l : Launch) {D : va_G} {K : Nat → ClassId} {a : Nat → Nat} {w n lap : Nat} {op mu ba la en : Nat → Nat} {pr : Nat → Option Nat} {sc : MSc} {ci : Nat} {k : Nat} (hDis : Dis a 13) (hG : GOK w n lap op mu ba la en pr) (hc : ci < n) (hk : k < 2 ^ w) (hk2 : k % 2 = 0) : Met l yX8_lay (TWd yX8_lay cX8_lay 4 (some .int)) (rmk 2) (va_Pc [.ref (a 0), .int (nI ci), .int (nI k)] (fun U => PI D K (mW K a w n lap op mu ba la en pr sc) U U.heap)) (QX D K (fun u : Unit => some (.int (nI (la ci)))) (fun u => (mW K a w n lap op mu ba (va_up la ci k) en pr sc)) (fun u => True) (adA a 13)) 0 0 (adA a 13) := by
  refine mt_of (by decide +kernel) (Nat.le_of_ble_eq_true rfl) ?_
  intro p e s m below meth c S hr hlk hI ls hl
  have S : CallFix p m c cX8_lay 4 s ([.ref (a 0), .int (nI ci), .int (nI k)] : List Value).toArray lw_tb RX8 := S
  have hl : lv_has ls 4 [(0, .ref (a 0)), (1, .int (nI ci)), (2, .int (nI k))] := hl
  have hS : va_S (adA a 13) s.heap s.heap [] := va_S.rf
  obtain ⟨gw1, gw2, gn, gl1, gl2, gop, gmu, gba, gla, gen, gpr, gop2, gmu2, gba2, gla2, gme, gbe, gle, gee⟩ := id hG
  refine lv_aload_n S.1 S.2.1 dX8_lay_0 rfl (lv_at hl 0 rfl) ?_
  refine lv_iload_n S.1 S.2.1 dX8_lay_1 rfl (lv_at hl 1 rfl) ?_
  refine kX8_isCourse S hI hG tw_673 (rok (by decide)) hl.1 (Nat.le_of_ble_eq_true rfl) dX8_lay_2 ?_
  refine ly_ifne (tgt := 10) S bI_e2 bI_e1 dX8_lay_5 (by decide) (fun h1 => ?_) (fun h1 => ?_)
  · skip
    refine lv_aload_n S.1 S.2.1 dX8_lay_10 rfl (lv_at hl 0 rfl) ?_
    refine lv_iload_n S.1 S.2.1 dX8_lay_11 rfl (lv_at hl 2 rfl) ?_
    refine kX8_arePlaces S hI hG tw_681 (rok (by decide)) hl.1 (Nat.le_of_ble_eq_true rfl) dX8_lay_12 ?_
    refine ly_ifne (tgt := 21) S bI_e2 bI_e1 dX8_lay_15 (by decide) (fun h2 => ?_) (fun h2 => ?_)
    · skip
      refine lv_aload_n S.1 S.2.1 dX8_lay_21 rfl (lv_at hl 0 rfl) ?_
      refine g8 S hI 0 rfl 5 (by decide) tw_612 rfl dX8_lay_22 ?_
      refine lv_iload_n S.1 S.2.1 dX8_lay_25 rfl (lv_at hl 1 rfl) ?_
      refine ly_iald (v := (nI (la ci))) S hI 4 rfl (by omega) (by decide) rfl dX8_lay_26 ?_
      refine lv_istore_n (lv' := [(3, .int (nI (la ci))), (0, .ref (a 0)), (1, .int (nI ci)), (2, .int (nI k))]) S.1 S.2.1 dX8_lay_27 rfl hl (by decide) rfl (fun ls hl => ?_)
      refine lv_aload_n S.1 S.2.1 dX8_lay_28 rfl (lv_at hl 1 rfl) ?_
      refine g8 S hI 0 rfl 5 (by decide) tw_612 rfl dX8_lay_29 ?_
      refine lv_iload_n S.1 S.2.1 dX8_lay_32 rfl (lv_at hl 2 rfl) ?_
      refine lv_iload_n S.1 S.2.1 dX8_lay_33 rfl (lv_at hl 3 rfl) ?_
      refine ly_iast (ws' := (mW K a w n lap op mu ba (va_up la ci k) en pr sc)) S hI (mD hDis) hS 4 rfl (by omega) (by decide) ms_4 dX8_lay_34 (fun H locs hI hS => ?_)
      refine lv_iload_n S.1 S.2.1 dX8_lay_35 rfl (lv_at hl 0 rfl) ?_
      exact rw_i S hr hlk () rfl trivial hI hS dX8_lay_36
    · skip
      exact absurd h2 (by rw [plI_n hk hk2 (by omega)]; decide)
  · skip
    exact absurd h1 (by rw [wiC (by omega) (by omega)]; decide)
theorem kX8_lay_c {p : Program} {l : Launch} {e : Env} {R : Room} {s : State} {m : MethodId} {args : Array Value} {below : List Frame} {meth : Method} {c : Code} {H H0 : Heap} {locs : List Loc} {cells slots : Nat} {Q : State → Prop} {cc : ByteArray} {nL index pc : Nat} {own : String} {ls : Array Slot} {rest : List Value} {D : va_G} {K : Nat → ClassId} {a : Nat → Nat} {w n lap : Nat} {op mu ba la en : Nat → Nat} {pr : Nat → Option Nat} {sc : MSc} {ci : Nat} {k : Nat} (S : CallFix p m c cc nL s args lw_tb own) (hI : PI D K (mW K a w n lap op mu ba la en pr sc) s H) (hS : va_S (adA a 13) H0 H locs) (hDis : Dis a 13) (hG : GOK w n lap op mu ba la en pr) (hc : ci < n) (hk : k < 2 ^ w) (hk2 : k % 2 = 0) (hlink : Cond.methodLink own index yX8_lay ∈ lw_tb) (hR : RO 2 R cells slots) (hsz : ls.size = nL) (hW : (rest.map fun v => v.category).sum ≤ 8) (hdg : decode cc pc = .ok (.invokevirtual index, 3)) (kk : ∀ (u : Unit) (H1 : Heap) (locs1 : List Loc), (True) → PI D K (mW K a w n lap op mu ba (va_up la ci k) en pr sc) s H1 → va_S (adA a 13) H0 H1 locs1 → H.size ≤ H1.size → (∀ q : Nat, q < H.size → ¬ (adA a 13) q → H1[q]? = H[q]?) → W p l e R s m args below meth c H1 locs1 cells slots Q (F0 m (pc + 3) ls ((.int (nI (la ci))) :: rest))) : W p l e R s m args below meth c H locs cells slots Q (F0 m pc ls (.int (nI k) :: .int (nI ci) :: .ref (a 0) :: rest)) :=
  kVX (As := [.int (nI ci), .int (nI k)]) (b := a 0) S (mX8_lay_c l hDis hG hc hk hk2) hlink tw_809 tw_810 tw_50 tw_811 (by show _ ∧ _ ∧ _ = some 2; decide +kernel) (by decide) hR blP (piU hI) (va_recv hI.2 hI.1 (ci := 8) (q0 := 0) rfl rfl) hS (fun _ h => h) hsz rfl hW hdg kk
