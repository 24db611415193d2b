set_option maxHeartbeats 4000000 in
set_option maxRecDepth 100000 in
theorem mX7_row_a (l : Launch) {D : va_G} {K : Nat → ClassId} {b : Nat → Nat} {w n lap : Nat} {op mu ba la en : Nat → Nat} {pr : Nat → Option Nat} {fr : Bool} {co : Nat → Nat → Nat} {cw cj : Nat → Int64} {cl : Nat} {rv : Int64} {rc : Nat} {pj : Nat → Nat → Nat} {pw ch : Nat → Nat} {pl lc : Nat} {tl : Nat → Nat} {v : Int32} {z : Int32} (hG : GOK w n lap op mu ba la en pr) (hv : wiI v 0 (nI n - 1) = false) : Met l yX7_row (TWd yX7_row cX7_row 3 (some .int)) (rmk 5) (va_Pc [.ref (b 0), .int v, .int z] (fun U => PI D K (cW K b w n lap op mu ba la en pr fr co cw cj cl rv rc pj pw ch pl lc tl) U U.heap)) (QcRead ((-1))) 0 0 (fun _ => False) := by
  refine mt_of (by decide +kernel) (Nat.le_of_ble_eq_true rfl) ?_
  intro p e s m below meth c S hr hlk hI ls hl
  have S : CallFix p m c cX7_row 3 s ([.ref (b 0), .int v, .int z] : List Value).toArray lw_tb RX7 := S
  have hl : lv_has ls 3 [(0, .ref (b 0)), (1, .int v), (2, .int z)] := hl
  obtain ⟨gw1, gw2, gn, gl1, gl2, gop, gmu, gba, gla, gen, gpr, gop2, gmu2, gba2, gla2, gme, gbe, gle, gee⟩ := id hG
  refine lv_aload_n S.1 S.2.1 dX7_row_0 rfl (lv_at hl 0 rfl) ?_
  refine g7 S hI 0 rfl 0 (by decide) tw_236 rfl dX7_row_1 ?_
  refine lv_iload_n S.1 S.2.1 dX7_row_4 rfl (lv_at hl 1 rfl) ?_
  refine kX6_has S hI hG tw_292 (rok (by decide)) hl.1 (Nat.le_of_ble_eq_true rfl) dX7_row_5 ?_
  refine ly_ifne (tgt := 13) S bI_e2 bI_e1 dX7_row_8 (by decide) (fun h1 => ?_) (fun h1 => ?_)
  · skip
    exact absurd h1 (by rw [hv]; decide)
  · skip
    refine lv_iconst (v := (-1)) S.1 S.2.1 dX7_row_11 (by decide) ?_
    exact rt_i S hr hlk rfl dX7_row_12
theorem kX7_row_a {p : Program} {l : Launch} {e : Env} {R : Room} {s : State} {m : MethodId} {args : Array Value} {below : List Frame} {meth : Method} {c : Code} {H : Heap} {locs : List Loc} {cells slots : Nat} {Q : State → Prop} {cc : ByteArray} {nL index pc : Nat} {own : String} {ls : Array Slot} {rest : List Value} {D : va_G} {K : Nat → ClassId} {b : Nat → Nat} {w n lap : Nat} {op mu ba la en : Nat → Nat} {pr : Nat → Option Nat} {fr : Bool} {co : Nat → Nat → Nat} {cw cj : Nat → Int64} {cl : Nat} {rv : Int64} {rc : Nat} {pj : Nat → Nat → Nat} {pw ch : Nat → Nat} {pl lc : Nat} {tl : Nat → Nat} {v : Int32} {z : Int32} (S : CallFix p m c cc nL s args lw_tb own) (hI : PI D K (cW K b w n lap op mu ba la en pr fr co cw cj cl rv rc pj pw ch pl lc tl) s H) (hG : GOK w n lap op mu ba la en pr) (hv : wiI v 0 (nI n - 1) = false) (hlink : Cond.methodLink own index yX7_row ∈ lw_tb) (hR : RO 5 R cells slots) (hsz : ls.size = nL) (hW : (rest.map fun v => v.category).sum ≤ 8) (hdg : decode cc pc = .ok (.invokevirtual index, 3)) (kk : W p l e R s m args below meth c H locs cells slots Q (F0 m (pc + 3) ls (.int ((-1)) :: rest))) : W p l e R s m args below meth c H locs cells slots Q (F0 m pc ls (.int z :: .int v :: .ref (b 0) :: rest)) :=
  kV (As := [.int v, .int z]) (b := b 0) S (mX7_row_a l hG hv) hlink tw_365 tw_366 tw_42 tw_367 (by show _ ∧ _ ∧ _ = some 2; decide +kernel) (by decide) hR blP (piU hI) (va_recv hI.2 hI.1 (ci := 7) (q0 := 0) rfl rfl) hsz rfl hW hdg kk

set_option maxHeartbeats 4000000 in
set_option maxRecDepth 100000 in
theorem mX7_row_b (l : Launch) {D : va_G} {K : Nat → ClassId} {b : Nat → Nat} {w n lap : Nat} {op mu ba la en : Nat → Nat} {pr : Nat → Option Nat} {fr : Bool} {co : Nat → Nat → Nat} {cw cj : Nat → Int64} {cl : Nat} {rv : Int64} {rc : Nat} {pj : Nat → Nat → Nat} {pw ch : Nat → Nat} {pl lc : Nat} {tl : Nat → Nat} {ci : Nat} {z : Int32} (hG : GOK w n lap op mu ba la en pr) (hc : ci < n) (hz : wiI z (-1) (nI 511) = false) : Met l yX7_row (TWd yX7_row cX7_row 3 (some .int)) (rmk 5) (va_Pc [.ref (b 0), .int (nI ci), .int z] (fun U => PI D K (cW K b w n lap op mu ba la en pr fr co cw cj cl rv rc pj pw ch pl lc tl) U U.heap)) (QcRead ((-2))) 0 0 (fun _ => False) := by
  refine mt_of (by decide +kernel) (Nat.le_of_ble_eq_true rfl) ?_
  intro p e s m below meth c S hr hlk hI ls hl
  have S : CallFix p m c cX7_row 3 s ([.ref (b 0), .int (nI ci), .int z] : List Value).toArray lw_tb RX7 := S
  have hl : lv_has ls 3 [(0, .ref (b 0)), (1, .int (nI ci)), (2, .int z)] := hl
  obtain ⟨gw1, gw2, gn, gl1, gl2, gop, gmu, gba, gla, gen, gpr, gop2, gmu2, gba2, gla2, gme, gbe, gle, gee⟩ := id hG
  refine lv_aload_n S.1 S.2.1 dX7_row_0 rfl (lv_at hl 0 rfl) ?_
  refine g7 S hI 0 rfl 0 (by decide) tw_236 rfl dX7_row_1 ?_
  refine lv_iload_n S.1 S.2.1 dX7_row_4 rfl (lv_at hl 1 rfl) ?_
  refine kX6_has S hI hG tw_292 (rok (by decide)) hl.1 (Nat.le_of_ble_eq_true rfl) dX7_row_5 ?_
  refine ly_ifne (tgt := 13) S bI_e2 bI_e1 dX7_row_8 (by decide) (fun h1 => ?_) (fun h1 => ?_)
  · skip
    refine lv_iload_n S.1 S.2.1 dX7_row_13 rfl (lv_at hl 2 rfl) ?_
    refine lv_iconst (v := (-1)) S.1 S.2.1 dX7_row_14 (by decide) ?_
    refine ly_cmlt (tgt := 25) S (fun q => q) (fun q => q) dX7_row_15 (by decide) (fun h2 => ?_) (fun h2 => ?_)
    · skip
      refine lv_bipush (v := (-2)) S.1 S.2.1 dX7_row_25 (by decide) ?_
      exact rt_i S hr hlk rfl dX7_row_27
    · skip
      refine lv_iload_n S.1 S.2.1 dX7_row_18 rfl (lv_at hl 2 rfl) ?_
      refine lv_sipush (v := nI 512) S.1 S.2.1 dX7_row_19 (by decide) ?_
      refine ly_cmlt (tgt := 28) S (fun q => q) (fun q => q) dX7_row_22 (by decide) (fun h3 => ?_) (fun h3 => ?_)
      · skip
        exact absurd (wiI_t h2 (lt512 h3)) (by rw [hz]; decide)
      · skip
        refine lv_bipush (v := (-2)) S.1 S.2.1 dX7_row_25 (by decide) ?_
        exact rt_i S hr hlk rfl dX7_row_27
  · skip
    exact absurd h1 (by rw [wiC (by omega) (by omega)]; decide)
theorem kX7_row_b {p : Program} {l : Launch} {e : Env} {R : Room} {s : State} {m : MethodId} {args : Array Value} {below : List Frame} {meth : Method} {c : Code} {H : Heap} {locs : List Loc} {cells slots : Nat} {Q : State → Prop} {cc : ByteArray} {nL index pc : Nat} {own : String} {ls : Array Slot} {rest : List Value} {D : va_G} {K : Nat → ClassId} {b : Nat → Nat} {w n lap : Nat} {op mu ba la en : Nat → Nat} {pr : Nat → Option Nat} {fr : Bool} {co : Nat → Nat → Nat} {cw cj : Nat → Int64} {cl : Nat} {rv : Int64} {rc : Nat} {pj : Nat → Nat → Nat} {pw ch : Nat → Nat} {pl lc : Nat} {tl : Nat → Nat} {ci : Nat} {z : Int32} (S : CallFix p m c cc nL s args lw_tb own) (hI : PI D K (cW K b w n lap op mu ba la en pr fr co cw cj cl rv rc pj pw ch pl lc tl) s H) (hG : GOK w n lap op mu ba la en pr) (hc : ci < n) (hz : wiI z (-1) (nI 511) = false) (hlink : Cond.methodLink own index yX7_row ∈ lw_tb) (hR : RO 5 R cells slots) (hsz : ls.size = nL) (hW : (rest.map fun v => v.category).sum ≤ 8) (hdg : decode cc pc = .ok (.invokevirtual index, 3)) (kk : W p l e R s m args below meth c H locs cells slots Q (F0 m (pc + 3) ls (.int ((-2)) :: rest))) : W p l e R s m args below meth c H locs cells slots Q (F0 m pc ls (.int z :: .int (nI ci) :: .ref (b 0) :: rest)) :=
  kV (As := [.int (nI ci), .int z]) (b := b 0) S (mX7_row_b l hG hc hz) hlink tw_365 tw_366 tw_42 tw_367 (by show _ ∧ _ ∧ _ = some 2; decide +kernel) (by decide) hR blP (piU hI) (va_recv hI.2 hI.1 (ci := 7) (q0 := 0) rfl rfl) hsz rfl hW hdg kk

set_option maxHeartbeats 4000000 in
set_option maxRecDepth 100000 in
theorem mX7_row_c (l : Launch) {D : va_G} {K : Nat → ClassId} {b : Nat → Nat} {w n lap : Nat} {op mu ba la en : Nat → Nat} {pr : Nat → Option Nat} {fr : Bool} {co : Nat → Nat → Nat} {cw cj : Nat → Int64} {cl : Nat} {rv : Int64} {rc : Nat} {pj : Nat → Nat → Nat} {pw ch : Nat → Nat} {pl lc : Nat} {tl : Nat → Nat} {ci : Nat} (hDis : Dis b 44) (hG : GOK w n lap op mu ba la en pr) (hVO : VOK w n op mu ba en pr fr co cl rv rc pj pw ch pl lc tl) (hc : ci < n) : Met l yX7_row (TWd yX7_row cX7_row 3 (some .int)) (rmk 5) (va_Pc [.ref (b 0), .int (nI ci), .int (-1)] (fun U => PI D K (cW K b w n lap op mu ba la en pr fr co cw cj cl rv rc pj pw ch pl lc tl) U U.heap)) (QX D K (fun u : CSc => some (.int (nI ((rws w op mu ba en pr ci).length)))) (fun u => (cW K b w n lap op mu ba la en pr u.1 u.2.1 u.2.2.1 u.2.2.2.1 u.2.2.2.2.1 u.2.2.2.2.2.1 u.2.2.2.2.2.2.1 u.2.2.2.2.2.2.2.1 u.2.2.2.2.2.2.2.2.1 u.2.2.2.2.2.2.2.2.2.1 u.2.2.2.2.2.2.2.2.2.2.1 u.2.2.2.2.2.2.2.2.2.2.2.1 u.2.2.2.2.2.2.2.2.2.2.2.2)) (fun u => VOKu w n op mu ba en pr u) (adA b 44)) 0 0 (adA b 44) := by
  refine mt_of (by decide +kernel) (Nat.le_of_ble_eq_true rfl) ?_
  intro p e s m below meth c S hr hlk hI ls hl
  have S : CallFix p m c cX7_row 3 s ([.ref (b 0), .int (nI ci), .int (-1)] : List Value).toArray lw_tb RX7 := S
  have hl : lv_has ls 3 [(0, .ref (b 0)), (1, .int (nI ci)), (2, .int (-1))] := hl
  have hS : va_S (adA b 44) s.heap s.heap [] := va_S.rf
  obtain ⟨gw1, gw2, gn, gl1, gl2, gop, gmu, gba, gla, gen, gpr, gop2, gmu2, gba2, gla2, gme, gbe, gle, gee⟩ := id hG
  obtain ⟨v1, v2, v3, v4, v5, v6, v7, v8, v9, v10, v11⟩ := id hVO
  refine lv_aload_n S.1 S.2.1 dX7_row_0 rfl (lv_at hl 0 rfl) ?_
  refine g7 S hI 0 rfl 0 (by decide) tw_236 rfl dX7_row_1 ?_
  refine lv_iload_n S.1 S.2.1 dX7_row_4 rfl (lv_at hl 1 rfl) ?_
  refine kX6_has S hI hG tw_292 (rok (by decide)) hl.1 (Nat.le_of_ble_eq_true rfl) dX7_row_5 ?_
  refine ly_ifne (tgt := 13) S bI_e2 bI_e1 dX7_row_8 (by decide) (fun h1 => ?_) (fun h1 => ?_)
  · skip
    refine lv_iload_n S.1 S.2.1 dX7_row_13 rfl (lv_at hl 2 rfl) ?_
    refine lv_iconst (v := (-1)) S.1 S.2.1 dX7_row_14 (by decide) ?_
    refine ly_cmlt (tgt := 25) S (fun q => q) (fun q => q) dX7_row_15 (by decide) (fun h2 => ?_) (fun h2 => ?_)
    · skip
      exact absurd h2 (by decide)
    · skip
      refine lv_iload_n S.1 S.2.1 dX7_row_18 rfl (lv_at hl 2 rfl) ?_
      refine lv_sipush (v := nI 512) S.1 S.2.1 dX7_row_19 (by decide) ?_
      refine ly_cmlt (tgt := 28) S (fun q => q) (fun q => q) dX7_row_22 (by decide) (fun h3 => ?_) (fun h3 => ?_)
      · skip
        refine lv_aload_n S.1 S.2.1 dX7_row_28 rfl (lv_at hl 0 rfl) ?_
        refine g7 S hI 0 rfl 1 (by decide) tw_237 rfl dX7_row_29 ?_
        refine kX4_renew S hI hS hDis hG v1 v2 tw_368 (rok (by decide)) hl.1 (Nat.le_of_ble_eq_true rfl) dX7_row_32 (fun u4 H locs hu4 hI hS _ _ => ?_)
        have hco := hu4.1
        refine lv_iload_n S.1 S.2.1 dX7_row_35 rfl (lv_at hl 2 rfl) ?_
        refine lv_iconst (v := (-1)) S.1 S.2.1 dX7_row_36 (by decide) ?_
        refine ly_cmne (tgt := 51) S (fun q => q) (fun q => q) dX7_row_37 (by decide) (fun h5 => ?_) (fun h5 => ?_)
        · skip
          exact absurd rfl h5
        · skip
          refine lv_aload_n S.1 S.2.1 dX7_row_40 rfl (lv_at hl 0 rfl) ?_
          refine g7 S hI 0 rfl 1 (by decide) tw_237 rfl dX7_row_41 ?_
          refine lv_iload_n S.1 S.2.1 dX7_row_44 rfl (lv_at hl 1 rfl) ?_
          refine kX4_howMany S hI hG (by omega) hco tw_412 (rok (by decide)) hl.1 (Nat.le_of_ble_eq_true rfl) dX7_row_45 ?_
          refine lv_goto (tgt := 60) S.1 S.2.1 dX7_row_48 (by decide) ?_
          exact rw_i S hr hlk (true, u4, cw, cj, cl, rv, rc, pj, pw, ch, pl, lc, tl) (by rw [rws_flt hG hc hu4.2]) ⟨hu4.1, fun _ => hu4.2, v3, v4, v5, v6, v7, v8, v9, v10, v11⟩ hI hS dX7_row_60
      · skip
        exact absurd h3 (by decide)
  · skip
    exact absurd h1 (by rw [wiC (by omega) (by omega)]; decide)
theorem kX7_row_c {p : Program} {l : Launch} {e : Env} {R : Room} {s : State} {m : MethodId} {args : Array Value} {below : List Frame} {meth : Method} {c : Code} {H H0 : Heap} {locs : List Loc} {cells slots : Nat} {Q : State → Prop} {cc : ByteArray} {nL index pc : Nat} {own : String} {ls : Array Slot} {rest : List Value} {D : va_G} {K : Nat → ClassId} {b : Nat → Nat} {w n lap : Nat} {op mu ba la en : Nat → Nat} {pr : Nat → Option Nat} {fr : Bool} {co : Nat → Nat → Nat} {cw cj : Nat → Int64} {cl : Nat} {rv : Int64} {rc : Nat} {pj : Nat → Nat → Nat} {pw ch : Nat → Nat} {pl lc : Nat} {tl : Nat → Nat} {ci : Nat} (S : CallFix p m c cc nL s args lw_tb own) (hI : PI D K (cW K b w n lap op mu ba la en pr fr co cw cj cl rv rc pj pw ch pl lc tl) s H) (hS : va_S (adA b 44) H0 H locs) (hDis : Dis b 44) (hG : GOK w n lap op mu ba la en pr) (hVO : VOK w n op mu ba en pr fr co cl rv rc pj pw ch pl lc tl) (hc : ci < n) (hlink : Cond.methodLink own index yX7_row ∈ lw_tb) (hR : RO 5 R cells slots) (hsz : ls.size = nL) (hW : (rest.map fun v => v.category).sum ≤ 8) (hdg : decode cc pc = .ok (.invokevirtual index, 3)) (kk : ∀ (u : CSc) (H1 : Heap) (locs1 : List Loc), (VOKu w n op mu ba en pr u) → PI D K (cW K b w n lap op mu ba la en pr u.1 u.2.1 u.2.2.1 u.2.2.2.1 u.2.2.2.2.1 u.2.2.2.2.2.1 u.2.2.2.2.2.2.1 u.2.2.2.2.2.2.2.1 u.2.2.2.2.2.2.2.2.1 u.2.2.2.2.2.2.2.2.2.1 u.2.2.2.2.2.2.2.2.2.2.1 u.2.2.2.2.2.2.2.2.2.2.2.1 u.2.2.2.2.2.2.2.2.2.2.2.2) s H1 → va_S (adA b 44) H0 H1 locs1 → H.size ≤ H1.size → (∀ q : Nat, q < H.size → ¬ (adA b 44) q → H1[q]? = H[q]?) → W p l e R s m args below meth c H1 locs1 cells slots Q (F0 m (pc + 3) ls ((.int (nI ((rws w op mu ba en pr ci).length))) :: rest))) : W p l e R s m args below meth c H locs cells slots Q (F0 m pc ls (.int (-1) :: .int (nI ci) :: .ref (b 0) :: rest)) :=
  kVX (As := [.int (nI ci), .int (-1)]) (b := b 0) S (mX7_row_c l hDis hG hVO hc) hlink tw_365 tw_366 tw_42 tw_367 (by show _ ∧ _ ∧ _ = some 2; decide +kernel) (by decide) hR blP (piU hI) (va_recv hI.2 hI.1 (ci := 7) (q0 := 0) rfl rfl) hS (fun _ h => h) hsz rfl hW hdg kk

set_option maxHeartbeats 4000000 in
set_option maxRecDepth 100000 in
theorem mX7_row_d (l : Launch) {D : va_G} {K : Nat → ClassId} {b : Nat → Nat} {w n lap : Nat} {op mu ba la en : Nat → Nat} {pr : Nat → Option Nat} {fr : Bool} {co : Nat → Nat → Nat} {cw cj : Nat → Int64} {cl : Nat} {rv : Int64} {rc : Nat} {pj : Nat → Nat → Nat} {pw ch : Nat → Nat} {pl lc : Nat} {tl : Nat → Nat} {ci : Nat} {k : Nat} (hDis : Dis b 44) (hG : GOK w n lap op mu ba la en pr) (hVO : VOK w n op mu ba en pr fr co cl rv rc pj pw ch pl lc tl) (hc : ci < n) (hk : k ≤ 511) : Met l yX7_row (TWd yX7_row cX7_row 3 (some .int)) (rmk 5) (va_Pc [.ref (b 0), .int (nI ci), .int (nI k)] (fun U => PI D K (cW K b w n lap op mu ba la en pr fr co cw cj cl rv rc pj pw ch pl lc tl) U U.heap)) (QX D K (fun u : CSc => some (.int (rwI w op mu ba en pr ci k))) (fun u => (cW K b w n lap op mu ba la en pr u.1 u.2.1 u.2.2.1 u.2.2.2.1 u.2.2.2.2.1 u.2.2.2.2.2.1 u.2.2.2.2.2.2.1 u.2.2.2.2.2.2.2.1 u.2.2.2.2.2.2.2.2.1 u.2.2.2.2.2.2.2.2.2.1 u.2.2.2.2.2.2.2.2.2.2.1 u.2.2.2.2.2.2.2.2.2.2.2.1 u.2.2.2.2.2.2.2.2.2.2.2.2)) (fun u => VOKu w n op mu ba en pr u) (adA b 44)) 0 0 (adA b 44) := by
  refine mt_of (by decide +kernel) (Nat.le_of_ble_eq_true rfl) ?_
  intro p e s m below meth c S hr hlk hI ls hl
  have S : CallFix p m c cX7_row 3 s ([.ref (b 0), .int (nI ci), .int (nI k)] : List Value).toArray lw_tb RX7 := S
  have hl : lv_has ls 3 [(0, .ref (b 0)), (1, .int (nI ci)), (2, .int (nI k))] := hl
  have hS : va_S (adA b 44) s.heap s.heap [] := va_S.rf
  obtain ⟨gw1, gw2, gn, gl1, gl2, gop, gmu, gba, gla, gen, gpr, gop2, gmu2, gba2, gla2, gme, gbe, gle, gee⟩ := id hG
  obtain ⟨v1, v2, v3, v4, v5, v6, v7, v8, v9, v10, v11⟩ := id hVO
  refine lv_aload_n S.1 S.2.1 dX7_row_0 rfl (lv_at hl 0 rfl) ?_
  refine g7 S hI 0 rfl 0 (by decide) tw_236 rfl dX7_row_1 ?_
  refine lv_iload_n S.1 S.2.1 dX7_row_4 rfl (lv_at hl 1 rfl) ?_
  refine kX6_has S hI hG tw_292 (rok (by decide)) hl.1 (Nat.le_of_ble_eq_true rfl) dX7_row_5 ?_
  refine ly_ifne (tgt := 13) S bI_e2 bI_e1 dX7_row_8 (by decide) (fun h1 => ?_) (fun h1 => ?_)
  · skip
    refine lv_iload_n S.1 S.2.1 dX7_row_13 rfl (lv_at hl 2 rfl) ?_
    refine lv_iconst (v := (-1)) S.1 S.2.1 dX7_row_14 (by decide) ?_
    refine ly_cmlt (tgt := 25) S (fun q => q) (fun q => q) dX7_row_15 (by decide) (fun h2 => ?_) (fun h2 => ?_)
    · skip
      exact absurd (wi_k hk) (by rw [wiI_l (z0 := -1) (z1 := nI 511) h2]; decide)
    · skip
      refine lv_iload_n S.1 S.2.1 dX7_row_18 rfl (lv_at hl 2 rfl) ?_
      refine lv_sipush (v := nI 512) S.1 S.2.1 dX7_row_19 (by decide) ?_
      refine ly_cmlt (tgt := 28) S (nI_l1 (by omega) (by omega)) (nI_l2 (by omega) (by omega)) dX7_row_22 (by decide) (fun h3 => ?_) (fun h3 => ?_)
      · skip
        refine lv_aload_n S.1 S.2.1 dX7_row_28 rfl (lv_at hl 0 rfl) ?_
        refine g7 S hI 0 rfl 1 (by decide) tw_237 rfl dX7_row_29 ?_
        refine kX4_renew S hI hS hDis hG v1 v2 tw_368 (rok (by decide)) hl.1 (Nat.le_of_ble_eq_true rfl) dX7_row_32 (fun u4 H locs hu4 hI hS _ _ => ?_)
        have hco := hu4.1
        refine lv_iload_n S.1 S.2.1 dX7_row_35 rfl (lv_at hl 2 rfl) ?_
        refine lv_iconst (v := (-1)) S.1 S.2.1 dX7_row_36 (by decide) ?_
        refine ly_cmne (tgt := 51) S (fun q => q) (fun q => q) dX7_row_37 (by decide) (fun h5 => ?_) (fun h5 => ?_)
        · skip
          refine lv_aload_n S.1 S.2.1 dX7_row_51 rfl (lv_at hl 0 rfl) ?_
          refine g7 S hI 0 rfl 1 (by decide) tw_237 rfl dX7_row_52 ?_
          refine lv_iload_n S.1 S.2.1 dX7_row_55 rfl (lv_at hl 1 rfl) ?_
          refine lv_iload_n S.1 S.2.1 dX7_row_56 rfl (lv_at hl 2 rfl) ?_
          refine kX4_jointsOf S hI hG (by omega) (by omega) hco tw_425 (rok (by decide)) hl.1 (Nat.le_of_ble_eq_true rfl) dX7_row_57 ?_
          exact rw_i S hr hlk (true, u4, cw, cj, cl, rv, rc, pj, pw, ch, pl, lc, tl) (by unfold rwG rwI; rw [rws_flt hG hc hu4.2]) ⟨hu4.1, fun _ => hu4.2, v3, v4, v5, v6, v7, v8, v9, v10, v11⟩ hI hS dX7_row_60
        · skip
          exact absurd h5 (nI_m1 (by omega))
      · skip
        exact absurd h3 (by omega)
  · skip
    exact absurd h1 (by rw [wiC (by omega) (by omega)]; decide)
theorem kX7_row_d {p : Program} {l : Launch} {e : Env} {R : Room} {s : State} {m : MethodId} {args : Array Value} {below : List Frame} {meth : Method} {c : Code} {H H0 : Heap} {locs : List Loc} {cells slots : Nat} {Q : State → Prop} {cc : ByteArray} {nL index pc : Nat} {own : String} {ls : Array Slot} {rest : List Value} {D : va_G} {K : Nat → ClassId} {b : Nat → Nat} {w n lap : Nat} {op mu ba la en : Nat → Nat} {pr : Nat → Option Nat} {fr : Bool} {co : Nat → Nat → Nat} {cw cj : Nat → Int64} {cl : Nat} {rv : Int64} {rc : Nat} {pj : Nat → Nat → Nat} {pw ch : Nat → Nat} {pl lc : Nat} {tl : Nat → Nat} {ci : Nat} {k : Nat} (S : CallFix p m c cc nL s args lw_tb own) (hI : PI D K (cW K b w n lap op mu ba la en pr fr co cw cj cl rv rc pj pw ch pl lc tl) s H) (hS : va_S (adA b 44) H0 H locs) (hDis : Dis b 44) (hG : GOK w n lap op mu ba la en pr) (hVO : VOK w n op mu ba en pr fr co cl rv rc pj pw ch pl lc tl) (hc : ci < n) (hk : k ≤ 511) (hlink : Cond.methodLink own index yX7_row ∈ lw_tb) (hR : RO 5 R cells slots) (hsz : ls.size = nL) (hW : (rest.map fun v => v.category).sum ≤ 8) (hdg : decode cc pc = .ok (.invokevirtual index, 3)) (kk : ∀ (u : CSc) (H1 : Heap) (locs1 : List Loc), (VOKu w n op mu ba en pr u) → PI D K (cW K b w n lap op mu ba la en pr u.1 u.2.1 u.2.2.1 u.2.2.2.1 u.2.2.2.2.1 u.2.2.2.2.2.1 u.2.2.2.2.2.2.1 u.2.2.2.2.2.2.2.1 u.2.2.2.2.2.2.2.2.1 u.2.2.2.2.2.2.2.2.2.1 u.2.2.2.2.2.2.2.2.2.2.1 u.2.2.2.2.2.2.2.2.2.2.2.1 u.2.2.2.2.2.2.2.2.2.2.2.2) s H1 → va_S (adA b 44) H0 H1 locs1 → H.size ≤ H1.size → (∀ q : Nat, q < H.size → ¬ (adA b 44) q → H1[q]? = H[q]?) → W p l e R s m args below meth c H1 locs1 cells slots Q (F0 m (pc + 3) ls ((.int (rwI w op mu ba en pr ci k)) :: rest))) : W p l e R s m args below meth c H locs cells slots Q (F0 m pc ls (.int (nI k) :: .int (nI ci) :: .ref (b 0) :: rest)) :=
  kVX (As := [.int (nI ci), .int (nI k)]) (b := b 0) S (mX7_row_d l hDis hG hVO hc hk) hlink tw_365 tw_366 tw_42 tw_367 (by show _ ∧ _ ∧ _ = some 2; decide +kernel) (by decide) hR blP (piU hI) (va_recv hI.2 hI.1 (ci := 7) (q0 := 0) rfl rfl) hS (fun _ h => h) hsz rfl hW hdg kk

set_option maxHeartbeats 4000000 in
set_option maxRecDepth 100000 in
theorem mX7_walls (l : Launch) {D : va_G} {K : Nat → ClassId} {b : Nat → Nat} {w n lap : Nat} {op mu ba la en : Nat → Nat} {pr : Nat → Option Nat} {fr : Bool} {co : Nat → Nat → Nat} {cw cj : Nat → Int64} {cl : Nat} {rv : Int64} {rc : Nat} {pj : Nat → Nat → Nat} {pw ch : Nat → Nat} {pl lc : Nat} {tl : Nat → Nat} (hDis : Dis b 44) (hG : GOK w n lap op mu ba la en pr) (hVO : VOK w n op mu ba en pr fr co cl rv rc pj pw ch pl lc tl) : Met l yX7_walls (TWd yX7_walls cX7_walls 1 (some .long)) (rmk 6) (va_Pc [.ref (b 0)] (fun U => PI D K (cW K b w n lap op mu ba la en pr fr co cw cj cl rv rc pj pw ch pl lc tl) U U.heap)) (QX D K (fun u : CSc => some (.long (wlS w op mu ba en pr n lap))) (fun u => (cW K b w n lap op mu ba la en pr u.1 u.2.1 u.2.2.1 u.2.2.2.1 u.2.2.2.2.1 u.2.2.2.2.2.1 u.2.2.2.2.2.2.1 u.2.2.2.2.2.2.2.1 u.2.2.2.2.2.2.2.2.1 u.2.2.2.2.2.2.2.2.2.1 u.2.2.2.2.2.2.2.2.2.2.1 u.2.2.2.2.2.2.2.2.2.2.2.1 u.2.2.2.2.2.2.2.2.2.2.2.2)) (fun u => VOKu w n op mu ba en pr u) (adA b 44)) 0 0 (adA b 44) := by
  refine mt_of (by decide +kernel) (Nat.le_of_ble_eq_true rfl) ?_
  intro p e s m below meth c S hr hlk hI ls hl
  have S : CallFix p m c cX7_walls 1 s ([.ref (b 0)] : List Value).toArray lw_tb RX7 := S
  have hl : lv_has ls 1 [(0, .ref (b 0))] := hl
  have hS : va_S (adA b 44) s.heap s.heap [] := va_S.rf
  obtain ⟨gw1, gw2, gn, gl1, gl2, gop, gmu, gba, gla, gen, gpr, gop2, gmu2, gba2, gla2, gme, gbe, gle, gee⟩ := id hG
  obtain ⟨v1, v2, v3, v4, v5, v6, v7, v8, v9, v10, v11⟩ := id hVO
  refine lv_aload_n S.1 S.2.1 dX7_walls_0 rfl (lv_at hl 0 rfl) ?_
  refine g7 S hI 0 rfl 2 (by decide) tw_238 rfl dX7_walls_1 ?_
  refine lv_aload_n S.1 S.2.1 dX7_walls_4 rfl (lv_at hl 0 rfl) ?_
  refine g7 S hI 0 rfl 0 (by decide) tw_236 rfl dX7_walls_5 ?_
  refine g6 S hI 1 rfl 5 (by decide) tw_134 rfl dX7_walls_8 ?_
  refine kX1_renew S hI hS hDis hG (by omega) (by omega) v1 v2 v3 v4 tw_433 (rok (by decide)) hl.1 (Nat.le_of_ble_eq_true rfl) dX7_walls_11 (fun u1 H locs hu1 hI hS _ _ => ?_)
  obtain ⟨r1, r2, r3, r4⟩ := hu1
  refine lv_aload_n S.1 S.2.1 dX7_walls_14 rfl (lv_at hl 0 rfl) ?_
  refine g7 S hI 0 rfl 2 (by decide) tw_238 rfl dX7_walls_15 ?_
  refine g1 S hI 10 rfl 5 (by decide) tw_177 rfl dX7_walls_18 ?_
  exact rw_l S hr hlk (u1.1, u1.2.1, u1.2.2.1, u1.2.2.2.1, lap, u1.2.2.2.2.1, u1.2.2.2.2.2, pj, pw, ch, pl, lc, tl) (by rw [r3, M_walls hG gl1 gl2]) ⟨r1, r2, gl2, fun _ => ⟨r3, r4⟩, v5, v6, v7, v8, v9, v10, v11⟩ hI hS dX7_walls_21
theorem kX7_walls {p : Program} {l : Launch} {e : Env} {R : Room} {s : State} {m : MethodId} {args : Array Value} {below : List Frame} {meth : Method} {c : Code} {H H0 : Heap} {locs : List Loc} {cells slots : Nat} {Q : State → Prop} {cc : ByteArray} {nL index pc : Nat} {own : String} {ls : Array Slot} {rest : List Value} {D : va_G} {K : Nat → ClassId} {b : Nat → Nat} {w n lap : Nat} {op mu ba la en : Nat → Nat} {pr : Nat → Option Nat} {fr : Bool} {co : Nat → Nat → Nat} {cw cj : Nat → Int64} {cl : Nat} {rv : Int64} {rc : Nat} {pj : Nat → Nat → Nat} {pw ch : Nat → Nat} {pl lc : Nat} {tl : Nat → Nat} (S : CallFix p m c cc nL s args lw_tb own) (hI : PI D K (cW K b w n lap op mu ba la en pr fr co cw cj cl rv rc pj pw ch pl lc tl) s H) (hS : va_S (adA b 44) H0 H locs) (hDis : Dis b 44) (hG : GOK w n lap op mu ba la en pr) (hVO : VOK w n op mu ba en pr fr co cl rv rc pj pw ch pl lc tl) (hlink : Cond.methodLink own index yX7_walls ∈ lw_tb) (hR : RO 6 R cells slots) (hsz : ls.size = nL) (hW : (rest.map fun v => v.category).sum ≤ 8) (hdg : decode cc pc = .ok (.invokevirtual index, 3)) (kk : ∀ (u : CSc) (H1 : Heap) (locs1 : List Loc), (VOKu w n op mu ba en pr u) → PI D K (cW K b w n lap op mu ba la en pr u.1 u.2.1 u.2.2.1 u.2.2.2.1 u.2.2.2.2.1 u.2.2.2.2.2.1 u.2.2.2.2.2.2.1 u.2.2.2.2.2.2.2.1 u.2.2.2.2.2.2.2.2.1 u.2.2.2.2.2.2.2.2.2.1 u.2.2.2.2.2.2.2.2.2.2.1 u.2.2.2.2.2.2.2.2.2.2.2.1 u.2.2.2.2.2.2.2.2.2.2.2.2) s H1 → va_S (adA b 44) H0 H1 locs1 → H.size ≤ H1.size → (∀ q : Nat, q < H.size → ¬ (adA b 44) q → H1[q]? = H[q]?) → W p l e R s m args below meth c H1 locs1 cells slots Q (F0 m (pc + 3) ls ((.long (wlS w op mu ba en pr n lap)) :: rest))) : W p l e R s m args below meth c H locs cells slots Q (F0 m pc ls (.ref (b 0) :: rest)) :=
  kVX (As := []) (b := b 0) S (mX7_walls l hDis hG hVO) hlink tw_430 tw_431 tw_42 tw_432 (by show _ ∧ _ ∧ _ = some 0; decide +kernel) (by decide) hR blP (piU hI) (va_recv hI.2 hI.1 (ci := 7) (q0 := 0) rfl rfl) hS (fun _ h => h) hsz rfl hW hdg kk

set_option maxHeartbeats 4000000 in
set_option maxRecDepth 100000 in
theorem mX7_highest (l : Launch) {D : va_G} {K : Nat → ClassId} {b : Nat → Nat} {w n lap : Nat} {op mu ba la en : Nat → Nat} {pr : Nat → Option Nat} {fr : Bool} {co : Nat → Nat → Nat} {cw cj : Nat → Int64} {cl : Nat} {rv : Int64} {rc : Nat} {pj : Nat → Nat → Nat} {pw ch : Nat → Nat} {pl lc : Nat} {tl : Nat → Nat} (hDis : Dis b 44) (hG : GOK w n lap op mu ba la en pr) (hVO : VOK w n op mu ba en pr fr co cl rv rc pj pw ch pl lc tl) : Met l yX7_highest (TWd yX7_highest cX7_highest 1 (some .int)) (rmk 6) (va_Pc [.ref (b 0)] (fun U => PI D K (cW K b w n lap op mu ba la en pr fr co cw cj cl rv rc pj pw ch pl lc tl) U U.heap)) (QX D K (fun u : CSc => some (.int (nI (hgG (fun q => (rws w op mu ba en pr q).any (rcS w op mu ba en pr lap q)) n 0)))) (fun u => (cW K b w n lap op mu ba la en pr u.1 u.2.1 u.2.2.1 u.2.2.2.1 u.2.2.2.2.1 u.2.2.2.2.2.1 u.2.2.2.2.2.2.1 u.2.2.2.2.2.2.2.1 u.2.2.2.2.2.2.2.2.1 u.2.2.2.2.2.2.2.2.2.1 u.2.2.2.2.2.2.2.2.2.2.1 u.2.2.2.2.2.2.2.2.2.2.2.1 u.2.2.2.2.2.2.2.2.2.2.2.2)) (fun u => VOKu w n op mu ba en pr u) (adA b 44)) 0 0 (adA b 44) := by
  refine mt_of (by decide +kernel) (Nat.le_of_ble_eq_true rfl) ?_
  intro p e s m below meth c S hr hlk hI ls hl
  have S : CallFix p m c cX7_highest 1 s ([.ref (b 0)] : List Value).toArray lw_tb RX7 := S
  have hl : lv_has ls 1 [(0, .ref (b 0))] := hl
  have hS : va_S (adA b 44) s.heap s.heap [] := va_S.rf
  obtain ⟨gw1, gw2, gn, gl1, gl2, gop, gmu, gba, gla, gen, gpr, gop2, gmu2, gba2, gla2, gme, gbe, gle, gee⟩ := id hG
  obtain ⟨v1, v2, v3, v4, v5, v6, v7, v8, v9, v10, v11⟩ := id hVO
  refine lv_aload_n S.1 S.2.1 dX7_highest_0 rfl (lv_at hl 0 rfl) ?_
  refine g7 S hI 0 rfl 2 (by decide) tw_238 rfl dX7_highest_1 ?_
  refine lv_aload_n S.1 S.2.1 dX7_highest_4 rfl (lv_at hl 0 rfl) ?_
  refine g7 S hI 0 rfl 0 (by decide) tw_236 rfl dX7_highest_5 ?_
  refine g6 S hI 1 rfl 5 (by decide) tw_134 rfl dX7_highest_8 ?_
  refine kX1_renew S hI hS hDis hG (by omega) (by omega) v1 v2 v3 v4 tw_433 (rok (by decide)) hl.1 (Nat.le_of_ble_eq_true rfl) dX7_highest_11 (fun u1 H locs hu1 hI hS _ _ => ?_)
  obtain ⟨r1, r2, r3, r4⟩ := hu1
  refine lv_aload_n S.1 S.2.1 dX7_highest_14 rfl (lv_at hl 0 rfl) ?_
  refine g7 S hI 0 rfl 2 (by decide) tw_238 rfl dX7_highest_15 ?_
  refine g1 S hI 10 rfl 6 (by decide) tw_179 rfl dX7_highest_18 ?_
  exact rw_i S hr hlk (u1.1, u1.2.1, u1.2.2.1, u1.2.2.2.1, lap, u1.2.2.2.2.1, u1.2.2.2.2.2, pj, pw, ch, pl, lc, tl) (by rw [r4, M_high hG gl1 gl2]) ⟨r1, r2, gl2, fun _ => ⟨r3, r4⟩, v5, v6, v7, v8, v9, v10, v11⟩ hI hS dX7_highest_21
theorem kX7_highest {p : Program} {l : Launch} {e : Env} {R : Room} {s : State} {m : MethodId} {args : Array Value} {below : List Frame} {meth : Method} {c : Code} {H H0 : Heap} {locs : List Loc} {cells slots : Nat} {Q : State → Prop} {cc : ByteArray} {nL index pc : Nat} {own : String} {ls : Array Slot} {rest : List Value} {D : va_G} {K : Nat → ClassId} {b : Nat → Nat} {w n lap : Nat} {op mu ba la en : Nat → Nat} {pr : Nat → Option Nat} {fr : Bool} {co : Nat → Nat → Nat} {cw cj : Nat → Int64} {cl : Nat} {rv : Int64} {rc : Nat} {pj : Nat → Nat → Nat} {pw ch : Nat → Nat} {pl lc : Nat} {tl : Nat → Nat} (S : CallFix p m c cc nL s args lw_tb own) (hI : PI D K (cW K b w n lap op mu ba la en pr fr co cw cj cl rv rc pj pw ch pl lc tl) s H) (hS : va_S (adA b 44) H0 H locs) (hDis : Dis b 44) (hG : GOK w n lap op mu ba la en pr) (hVO : VOK w n op mu ba en pr fr co cl rv rc pj pw ch pl lc tl) (hlink : Cond.methodLink own index yX7_highest ∈ lw_tb) (hR : RO 6 R cells slots) (hsz : ls.size = nL) (hW : (rest.map fun v => v.category).sum ≤ 8) (hdg : decode cc pc = .ok (.invokevirtual index, 3)) (kk : ∀ (u : CSc) (H1 : Heap) (locs1 : List Loc), (VOKu w n op mu ba en pr u) → PI D K (cW K b w n lap op mu ba la en pr u.1 u.2.1 u.2.2.1 u.2.2.2.1 u.2.2.2.2.1 u.2.2.2.2.2.1 u.2.2.2.2.2.2.1 u.2.2.2.2.2.2.2.1 u.2.2.2.2.2.2.2.2.1 u.2.2.2.2.2.2.2.2.2.1 u.2.2.2.2.2.2.2.2.2.2.1 u.2.2.2.2.2.2.2.2.2.2.2.1 u.2.2.2.2.2.2.2.2.2.2.2.2) s H1 → va_S (adA b 44) H0 H1 locs1 → H.size ≤ H1.size → (∀ q : Nat, q < H.size → ¬ (adA b 44) q → H1[q]? = H[q]?) → W p l e R s m args below meth c H1 locs1 cells slots Q (F0 m (pc + 3) ls ((.int (nI (hgG (fun q => (rws w op mu ba en pr q).any (rcS w op mu ba en pr lap q)) n 0))) :: rest))) : W p l e R s m args below meth c H locs cells slots Q (F0 m pc ls (.ref (b 0) :: rest)) :=
  kVX (As := []) (b := b 0) S (mX7_highest l hDis hG hVO) hlink tw_515 tw_516 tw_42 tw_517 (by show _ ∧ _ ∧ _ = some 0; decide +kernel) (by decide) hR blP (piU hI) (va_recv hI.2 hI.1 (ci := 7) (q0 := 0) rfl rfl) hS (fun _ h => h) hsz rfl hW hdg kk

set_option maxHeartbeats 4000000 in
set_option maxRecDepth 100000 in
theorem mX7_best (l : Launch) {D : va_G} {K : Nat → ClassId} {b : Nat → Nat} {w n lap : Nat} {op mu ba la en : Nat → Nat} {pr : Nat → Option Nat} {fr : Bool} {co : Nat → Nat → Nat} {cw cj : Nat → Int64} {cl : Nat} {rv : Int64} {rc : Nat} {pj : Nat → Nat → Nat} {pw ch : Nat → Nat} {pl lc : Nat} {tl : Nat → Nat} (hDis : Dis b 44) (hG : GOK w n lap op mu ba la en pr) (hVO : VOK w n op mu ba en pr fr co cl rv rc pj pw ch pl lc tl) : Met l yX7_best (TWd yX7_best cX7_best 1 (some .int)) (rmk 6) (va_Pc [.ref (b 0)] (fun U => PI D K (cW K b w n lap op mu ba la en pr fr co cw cj cl rv rc pj pw ch pl lc tl) U U.heap)) (QX D K (fun u : CSc => some (.int (bsI w op mu ba en pr n lap))) (fun u => (cW K b w n lap op mu ba la en pr u.1 u.2.1 u.2.2.1 u.2.2.2.1 u.2.2.2.2.1 u.2.2.2.2.2.1 u.2.2.2.2.2.2.1 u.2.2.2.2.2.2.2.1 u.2.2.2.2.2.2.2.2.1 u.2.2.2.2.2.2.2.2.2.1 u.2.2.2.2.2.2.2.2.2.2.1 u.2.2.2.2.2.2.2.2.2.2.2.1 u.2.2.2.2.2.2.2.2.2.2.2.2)) (fun u => VOKu w n op mu ba en pr u) (adA b 44)) 0 0 (adA b 44) := by
  refine mt_of (by decide +kernel) (Nat.le_of_ble_eq_true rfl) ?_
  intro p e s m below meth c S hr hlk hI ls hl
  have S : CallFix p m c cX7_best 1 s ([.ref (b 0)] : List Value).toArray lw_tb RX7 := S
  have hl : lv_has ls 1 [(0, .ref (b 0))] := hl
  have hS : va_S (adA b 44) s.heap s.heap [] := va_S.rf
  obtain ⟨gw1, gw2, gn, gl1, gl2, gop, gmu, gba, gla, gen, gpr, gop2, gmu2, gba2, gla2, gme, gbe, gle, gee⟩ := id hG
  obtain ⟨v1, v2, v3, v4, v5, v6, v7, v8, v9, v10, v11⟩ := id hVO
  refine lv_aload_n S.1 S.2.1 dX7_best_0 rfl (lv_at hl 0 rfl) ?_
  refine g7 S hI 0 rfl 3 (by decide) tw_239 rfl dX7_best_1 ?_
  refine lv_aload_n S.1 S.2.1 dX7_best_4 rfl (lv_at hl 0 rfl) ?_
  refine g7 S hI 0 rfl 0 (by decide) tw_236 rfl dX7_best_5 ?_
  refine g6 S hI 1 rfl 5 (by decide) tw_134 rfl dX7_best_8 ?_
  refine kX3_renew S hI hS hDis hG (by omega) (by omega) v1 v2 v5 v6 v7 v8 v10 tw_466 (rok (by decide)) hl.1 (Nat.le_of_ble_eq_true rfl) dX7_best_11 (fun u1 H locs hu1 hI hS _ _ => ?_)
  obtain ⟨r1, r2, r3, r4, r5, r6, r7⟩ := hu1
  have r8 : u1.2.2.2.2.2 ≤ 1000000 := by rw [r6]; exact pwT_le _ _
  refine lv_aload_n S.1 S.2.1 dX7_best_14 rfl (lv_at hl 0 rfl) ?_
  refine g7 S hI 0 rfl 3 (by decide) tw_239 rfl dX7_best_15 ?_
  refine kX3_isNone S hI hG r8 tw_494 (rok (by decide)) hl.1 (Nat.le_of_ble_eq_true rfl) dX7_best_18 ?_
  refine ly_ifeq (tgt := 29) S bI_e1 bI_e2 dX7_best_21 (by decide) (fun h2 => ?_) (fun h2 => ?_)
  · skip
    refine lv_aload_n S.1 S.2.1 dX7_best_29 rfl (lv_at hl 0 rfl) ?_
    refine g7 S hI 0 rfl 3 (by decide) tw_239 rfl dX7_best_30 ?_
    refine g3 S hI 13 rfl 6 (by decide) tw_210 rfl dX7_best_33 ?_
    exact rw_i S hr hlk (u1.1, u1.2.1, cw, cj, cl, rv, rc, u1.2.2.1, u1.2.2.2.1, u1.2.2.2.2.1, lap, u1.2.2.2.2.2, tl) (by rw [be_y hG gl1 gl2 r6 h2]) ⟨r1, r2, v3, v4, gl2, r3, r5, r4, r8, fun _ => ⟨r6, r7⟩, v11⟩ hI hS dX7_best_36
  · skip
    refine lv_bipush (v := (-9)) S.1 S.2.1 dX7_best_24 (by decide) ?_
    refine lv_goto (tgt := 36) S.1 S.2.1 dX7_best_26 (by decide) ?_
    exact rw_i S hr hlk (u1.1, u1.2.1, cw, cj, cl, rv, rc, u1.2.2.1, u1.2.2.2.1, u1.2.2.2.2.1, lap, u1.2.2.2.2.2, tl) (by rw [be_n hG gl1 gl2 r6 h2]) ⟨r1, r2, v3, v4, gl2, r3, r5, r4, r8, fun _ => ⟨r6, r7⟩, v11⟩ hI hS dX7_best_36
theorem kX7_best {p : Program} {l : Launch} {e : Env} {R : Room} {s : State} {m : MethodId} {args : Array Value} {below : List Frame} {meth : Method} {c : Code} {H H0 : Heap} {locs : List Loc} {cells slots : Nat} {Q : State → Prop} {cc : ByteArray} {nL index pc : Nat} {own : String} {ls : Array Slot} {rest : List Value} {D : va_G} {K : Nat → ClassId} {b : Nat → Nat} {w n lap : Nat} {op mu ba la en : Nat → Nat} {pr : Nat → Option Nat} {fr : Bool} {co : Nat → Nat → Nat} {cw cj : Nat → Int64} {cl : Nat} {rv : Int64} {rc : Nat} {pj : Nat → Nat → Nat} {pw ch : Nat → Nat} {pl lc : Nat} {tl : Nat → Nat} (S : CallFix p m c cc nL s args lw_tb own) (hI : PI D K (cW K b w n lap op mu ba la en pr fr co cw cj cl rv rc pj pw ch pl lc tl) s H) (hS : va_S (adA b 44) H0 H locs) (hDis : Dis b 44) (hG : GOK w n lap op mu ba la en pr) (hVO : VOK w n op mu ba en pr fr co cl rv rc pj pw ch pl lc tl) (hlink : Cond.methodLink own index yX7_best ∈ lw_tb) (hR : RO 6 R cells slots) (hsz : ls.size = nL) (hW : (rest.map fun v => v.category).sum ≤ 8) (hdg : decode cc pc = .ok (.invokevirtual index, 3)) (kk : ∀ (u : CSc) (H1 : Heap) (locs1 : List Loc), (VOKu w n op mu ba en pr u) → PI D K (cW K b w n lap op mu ba la en pr u.1 u.2.1 u.2.2.1 u.2.2.2.1 u.2.2.2.2.1 u.2.2.2.2.2.1 u.2.2.2.2.2.2.1 u.2.2.2.2.2.2.2.1 u.2.2.2.2.2.2.2.2.1 u.2.2.2.2.2.2.2.2.2.1 u.2.2.2.2.2.2.2.2.2.2.1 u.2.2.2.2.2.2.2.2.2.2.2.1 u.2.2.2.2.2.2.2.2.2.2.2.2) s H1 → va_S (adA b 44) H0 H1 locs1 → H.size ≤ H1.size → (∀ q : Nat, q < H.size → ¬ (adA b 44) q → H1[q]? = H[q]?) → W p l e R s m args below meth c H1 locs1 cells slots Q (F0 m (pc + 3) ls ((.int (bsI w op mu ba en pr n lap)) :: rest))) : W p l e R s m args below meth c H locs cells slots Q (F0 m pc ls (.ref (b 0) :: rest)) :=
  kVX (As := []) (b := b 0) S (mX7_best l hDis hG hVO) hlink tw_463 tw_464 tw_42 tw_465 (by show _ ∧ _ ∧ _ = some 0; decide +kernel) (by decide) hR blP (piU hI) (va_recv hI.2 hI.1 (ci := 7) (q0 := 0) rfl rfl) hS (fun _ h => h) hsz rfl hW hdg kk

set_option maxHeartbeats 4000000 in
set_option maxRecDepth 100000 in
theorem mX7_byLap_a (l : Launch) {D : va_G} {K : Nat → ClassId} {b : Nat → Nat} {w n lap : Nat} {op mu ba la en : Nat → Nat} {pr : Nat → Option Nat} {fr : Bool} {co : Nat → Nat → Nat} {cw cj : Nat → Int64} {cl : Nat} {rv : Int64} {rc : Nat} {pj : Nat → Nat → Nat} {pw ch : Nat → Nat} {pl lc : Nat} {tl : Nat → Nat} {v : Int32} (hG : GOK w n lap op mu ba la en pr) (hv : wiI v (nI 1) (nI 3) = false) : Met l yX7_byLap (TWd yX7_byLap cX7_byLap 2 (some .int)) (rmk 6) (va_Pc [.ref (b 0), .int v] (fun U => PI D K (cW K b w n lap op mu ba la en pr fr co cw cj cl rv rc pj pw ch pl lc tl) U U.heap)) (QcRead ((-2))) 0 0 (fun _ => False) := by
  refine mt_of (by decide +kernel) (Nat.le_of_ble_eq_true rfl) ?_
  intro p e s m below meth c S hr hlk hI ls hl
  have S : CallFix p m c cX7_byLap 2 s ([.ref (b 0), .int v] : List Value).toArray lw_tb RX7 := S
  have hl : lv_has ls 2 [(0, .ref (b 0)), (1, .int v)] := hl
  obtain ⟨gw1, gw2, gn, gl1, gl2, gop, gmu, gba, gla, gen, gpr, gop2, gmu2, gba2, gla2, gme, gbe, gle, gee⟩ := id hG
  refine lv_iload_n S.1 S.2.1 dX7_byLap_0 rfl (lv_at hl 1 rfl) ?_
  refine lv_iconst (v := nI 1) S.1 S.2.1 dX7_byLap_1 (by decide) ?_
  refine ly_cmlt (tgt := 10) S (fun q => q) (fun q => q) dX7_byLap_2 (by decide) (fun h1 => ?_) (fun h1 => ?_)
  · skip
    refine lv_bipush (v := (-2)) S.1 S.2.1 dX7_byLap_10 (by decide) ?_
    exact rt_i S hr hlk rfl dX7_byLap_12
  · skip
    refine lv_iload_n S.1 S.2.1 dX7_byLap_5 rfl (lv_at hl 1 rfl) ?_
    refine lv_iconst (v := nI 3) S.1 S.2.1 dX7_byLap_6 (by decide) ?_
    refine ly_cmle (tgt := 13) S (fun q => q) (fun q => q) dX7_byLap_7 (by decide) (fun h2 => ?_) (fun h2 => ?_)
    · skip
      exact absurd (wiI_t h1 (Int32.not_lt.mpr h2)) (by rw [hv]; decide)
    · skip
      refine lv_bipush (v := (-2)) S.1 S.2.1 dX7_byLap_10 (by decide) ?_
      exact rt_i S hr hlk rfl dX7_byLap_12
theorem kX7_byLap_a {p : Program} {l : Launch} {e : Env} {R : Room} {s : State} {m : MethodId} {args : Array Value} {below : List Frame} {meth : Method} {c : Code} {H : Heap} {locs : List Loc} {cells slots : Nat} {Q : State → Prop} {cc : ByteArray} {nL index pc : Nat} {own : String} {ls : Array Slot} {rest : List Value} {D : va_G} {K : Nat → ClassId} {b : Nat → Nat} {w n lap : Nat} {op mu ba la en : Nat → Nat} {pr : Nat → Option Nat} {fr : Bool} {co : Nat → Nat → Nat} {cw cj : Nat → Int64} {cl : Nat} {rv : Int64} {rc : Nat} {pj : Nat → Nat → Nat} {pw ch : Nat → Nat} {pl lc : Nat} {tl : Nat → Nat} {v : Int32} (S : CallFix p m c cc nL s args lw_tb own) (hI : PI D K (cW K b w n lap op mu ba la en pr fr co cw cj cl rv rc pj pw ch pl lc tl) s H) (hG : GOK w n lap op mu ba la en pr) (hv : wiI v (nI 1) (nI 3) = false) (hlink : Cond.methodLink own index yX7_byLap ∈ lw_tb) (hR : RO 6 R cells slots) (hsz : ls.size = nL) (hW : (rest.map fun v => v.category).sum ≤ 8) (hdg : decode cc pc = .ok (.invokevirtual index, 3)) (kk : W p l e R s m args below meth c H locs cells slots Q (F0 m (pc + 3) ls (.int ((-2)) :: rest))) : W p l e R s m args below meth c H locs cells slots Q (F0 m pc ls (.int v :: .ref (b 0) :: rest)) :=
  kV (As := [.int v]) (b := b 0) S (mX7_byLap_a l hG hv) hlink tw_519 tw_520 tw_42 tw_521 (by show _ ∧ _ ∧ _ = some 1; decide +kernel) (by decide) hR blP (piU hI) (va_recv hI.2 hI.1 (ci := 7) (q0 := 0) rfl rfl) hsz rfl hW hdg kk

set_option maxHeartbeats 4000000 in
set_option maxRecDepth 100000 in
theorem mX7_byLap_b (l : Launch) {D : va_G} {K : Nat → ClassId} {b : Nat → Nat} {w n lap : Nat} {op mu ba la en : Nat → Nat} {pr : Nat → Option Nat} {fr : Bool} {co : Nat → Nat → Nat} {cw cj : Nat → Int64} {cl : Nat} {rv : Int64} {rc : Nat} {pj : Nat → Nat → Nat} {pw ch : Nat → Nat} {pl lc : Nat} {tl : Nat → Nat} {z : Nat} (hDis : Dis b 44) (hG : GOK w n lap op mu ba la en pr) (hVO : VOK w n op mu ba en pr fr co cl rv rc pj pw ch pl lc tl) (hz1 : 1 ≤ z) (hz2 : z ≤ 3) : Met l yX7_byLap (TWd yX7_byLap cX7_byLap 2 (some .int)) (rmk 6) (va_Pc [.ref (b 0), .int (nI z)] (fun U => PI D K (cW K b w n lap op mu ba la en pr fr co cw cj cl rv rc pj pw ch pl lc tl) U U.heap)) (QX D K (fun u : CSc => some (.int (bsI w op mu ba en pr n z))) (fun u => (cW K b w n lap op mu ba la en pr u.1 u.2.1 u.2.2.1 u.2.2.2.1 u.2.2.2.2.1 u.2.2.2.2.2.1 u.2.2.2.2.2.2.1 u.2.2.2.2.2.2.2.1 u.2.2.2.2.2.2.2.2.1 u.2.2.2.2.2.2.2.2.2.1 u.2.2.2.2.2.2.2.2.2.2.1 u.2.2.2.2.2.2.2.2.2.2.2.1 u.2.2.2.2.2.2.2.2.2.2.2.2)) (fun u => VOKu w n op mu ba en pr u) (adA b 44)) 0 0 (adA b 44) := by
  refine mt_of (by decide +kernel) (Nat.le_of_ble_eq_true rfl) ?_
  intro p e s m below meth c S hr hlk hI ls hl
  have S : CallFix p m c cX7_byLap 2 s ([.ref (b 0), .int (nI z)] : List Value).toArray lw_tb RX7 := S
  have hl : lv_has ls 2 [(0, .ref (b 0)), (1, .int (nI z))] := hl
  have hS : va_S (adA b 44) s.heap s.heap [] := va_S.rf
  obtain ⟨gw1, gw2, gn, gl1, gl2, gop, gmu, gba, gla, gen, gpr, gop2, gmu2, gba2, gla2, gme, gbe, gle, gee⟩ := id hG
  obtain ⟨v1, v2, v3, v4, v5, v6, v7, v8, v9, v10, v11⟩ := id hVO
  refine lv_iload_n S.1 S.2.1 dX7_byLap_0 rfl (lv_at hl 1 rfl) ?_
  refine lv_iconst (v := nI 1) S.1 S.2.1 dX7_byLap_1 (by decide) ?_
  refine ly_cmlt (tgt := 10) S (nI_l1 (by omega) (by omega)) (nI_l2 (by omega) (by omega)) dX7_byLap_2 (by decide) (fun h1 => ?_) (fun h1 => ?_)
  · skip
    exact absurd h1 (by omega)
  · skip
    refine lv_iload_n S.1 S.2.1 dX7_byLap_5 rfl (lv_at hl 1 rfl) ?_
    refine lv_iconst (v := nI 3) S.1 S.2.1 dX7_byLap_6 (by decide) ?_
    refine ly_cmle (tgt := 13) S (nI_le1 (by omega) (by omega)) (nI_le2 (by omega) (by omega)) dX7_byLap_7 (by decide) (fun h2 => ?_) (fun h2 => ?_)
    · skip
      refine lv_aload_n S.1 S.2.1 dX7_byLap_13 rfl (lv_at hl 0 rfl) ?_
      refine g7 S hI 0 rfl 3 (by decide) tw_239 rfl dX7_byLap_14 ?_
      refine lv_iload_n S.1 S.2.1 dX7_byLap_17 rfl (lv_at hl 1 rfl) ?_
      refine kX3_renew S hI hS hDis hG (by omega) (by omega) v1 v2 v5 v6 v7 v8 v10 tw_466 (rok (by decide)) hl.1 (Nat.le_of_ble_eq_true rfl) dX7_byLap_18 (fun u3 H locs hu3 hI hS _ _ => ?_)
      obtain ⟨r1, r2, r3, r4, r5, r6, r7⟩ := hu3
      have r8 : u3.2.2.2.2.2 ≤ 1000000 := by rw [r6]; exact pwT_le _ _
      refine lv_aload_n S.1 S.2.1 dX7_byLap_21 rfl (lv_at hl 0 rfl) ?_
      refine g7 S hI 0 rfl 3 (by decide) tw_239 rfl dX7_byLap_22 ?_
      refine kX3_isNone S hI hG r8 tw_494 (rok (by decide)) hl.1 (Nat.le_of_ble_eq_true rfl) dX7_byLap_25 ?_
      refine ly_ifeq (tgt := 36) S bI_e1 bI_e2 dX7_byLap_28 (by decide) (fun h4 => ?_) (fun h4 => ?_)
      · skip
        refine lv_aload_n S.1 S.2.1 dX7_byLap_36 rfl (lv_at hl 0 rfl) ?_
        refine g7 S hI 0 rfl 3 (by decide) tw_239 rfl dX7_byLap_37 ?_
        refine g3 S hI 13 rfl 6 (by decide) tw_210 rfl dX7_byLap_40 ?_
        exact rw_i S hr hlk (u3.1, u3.2.1, cw, cj, cl, rv, rc, u3.2.2.1, u3.2.2.2.1, u3.2.2.2.2.1, z, u3.2.2.2.2.2, tl) (by rw [be_y hG hz1 hz2 r6 h4]) ⟨r1, r2, v3, v4, hz2, r3, r5, r4, r8, fun _ => ⟨r6, r7⟩, v11⟩ hI hS dX7_byLap_43
      · skip
        refine lv_bipush (v := (-9)) S.1 S.2.1 dX7_byLap_31 (by decide) ?_
        refine lv_goto (tgt := 43) S.1 S.2.1 dX7_byLap_33 (by decide) ?_
        exact rw_i S hr hlk (u3.1, u3.2.1, cw, cj, cl, rv, rc, u3.2.2.1, u3.2.2.2.1, u3.2.2.2.2.1, z, u3.2.2.2.2.2, tl) (by rw [be_n hG hz1 hz2 r6 h4]) ⟨r1, r2, v3, v4, hz2, r3, r5, r4, r8, fun _ => ⟨r6, r7⟩, v11⟩ hI hS dX7_byLap_43
    · skip
      exact absurd h2 (by omega)
theorem kX7_byLap_b {p : Program} {l : Launch} {e : Env} {R : Room} {s : State} {m : MethodId} {args : Array Value} {below : List Frame} {meth : Method} {c : Code} {H H0 : Heap} {locs : List Loc} {cells slots : Nat} {Q : State → Prop} {cc : ByteArray} {nL index pc : Nat} {own : String} {ls : Array Slot} {rest : List Value} {D : va_G} {K : Nat → ClassId} {b : Nat → Nat} {w n lap : Nat} {op mu ba la en : Nat → Nat} {pr : Nat → Option Nat} {fr : Bool} {co : Nat → Nat → Nat} {cw cj : Nat → Int64} {cl : Nat} {rv : Int64} {rc : Nat} {pj : Nat → Nat → Nat} {pw ch : Nat → Nat} {pl lc : Nat} {tl : Nat → Nat} {z : Nat} (S : CallFix p m c cc nL s args lw_tb own) (hI : PI D K (cW K b w n lap op mu ba la en pr fr co cw cj cl rv rc pj pw ch pl lc tl) s H) (hS : va_S (adA b 44) H0 H locs) (hDis : Dis b 44) (hG : GOK w n lap op mu ba la en pr) (hVO : VOK w n op mu ba en pr fr co cl rv rc pj pw ch pl lc tl) (hz1 : 1 ≤ z) (hz2 : z ≤ 3) (hlink : Cond.methodLink own index yX7_byLap ∈ lw_tb) (hR : RO 6 R cells slots) (hsz : ls.size = nL) (hW : (rest.map fun v => v.category).sum ≤ 8) (hdg : decode cc pc = .ok (.invokevirtual index, 3)) (kk : ∀ (u : CSc) (H1 : Heap) (locs1 : List Loc), (VOKu w n op mu ba en pr u) → PI D K (cW K b w n lap op mu ba la en pr u.1 u.2.1 u.2.2.1 u.2.2.2.1 u.2.2.2.2.1 u.2.2.2.2.2.1 u.2.2.2.2.2.2.1 u.2.2.2.2.2.2.2.1 u.2.2.2.2.2.2.2.2.1 u.2.2.2.2.2.2.2.2.2.1 u.2.2.2.2.2.2.2.2.2.2.1 u.2.2.2.2.2.2.2.2.2.2.2.1 u.2.2.2.2.2.2.2.2.2.2.2.2) s H1 → va_S (adA b 44) H0 H1 locs1 → H.size ≤ H1.size → (∀ q : Nat, q < H.size → ¬ (adA b 44) q → H1[q]? = H[q]?) → W p l e R s m args below meth c H1 locs1 cells slots Q (F0 m (pc + 3) ls ((.int (bsI w op mu ba en pr n z)) :: rest))) : W p l e R s m args below meth c H locs cells slots Q (F0 m pc ls (.int (nI z) :: .ref (b 0) :: rest)) :=
  kVX (As := [.int (nI z)]) (b := b 0) S (mX7_byLap_b l hDis hG hVO hz1 hz2) hlink tw_519 tw_520 tw_42 tw_521 (by show _ ∧ _ ∧ _ = some 1; decide +kernel) (by decide) hR blP (piU hI) (va_recv hI.2 hI.1 (ci := 7) (q0 := 0) rfl rfl) hS (fun _ h => h) hsz rfl hW hdg kk

set_option maxHeartbeats 4000000 in
set_option maxRecDepth 100000 in
theorem mX7_bestRow_a (l : Launch) {D : va_G} {K : Nat → ClassId} {b : Nat → Nat} {w n lap : Nat} {op mu ba la en : Nat → Nat} {pr : Nat → Option Nat} {fr : Bool} {co : Nat → Nat → Nat} {cw cj : Nat → Int64} {cl : Nat} {rv : Int64} {rc : Nat} {pj : Nat → Nat → Nat} {pw ch : Nat → Nat} {pl lc : Nat} {tl : Nat → Nat} {v : Int32} (hG : GOK w n lap op mu ba la en pr) (hv : wiI v 0 (nI n - 1) = false) : Met l yX7_bestRow (TWd yX7_bestRow cX7_bestRow 2 (some .int)) (rmk 6) (va_Pc [.ref (b 0), .int v] (fun U => PI D K (cW K b w n lap op mu ba la en pr fr co cw cj cl rv rc pj pw ch pl lc tl) U U.heap)) (QcRead ((-1))) 0 0 (fun _ => False) := by
  refine mt_of (by decide +kernel) (Nat.le_of_ble_eq_true rfl) ?_
  intro p e s m below meth c S hr hlk hI ls hl
  have S : CallFix p m c cX7_bestRow 2 s ([.ref (b 0), .int v] : List Value).toArray lw_tb RX7 := S
  have hl : lv_has ls 2 [(0, .ref (b 0)), (1, .int v)] := hl
  obtain ⟨gw1, gw2, gn, gl1, gl2, gop, gmu, gba, gla, gen, gpr, gop2, gmu2, gba2, gla2, gme, gbe, gle, gee⟩ := id hG
  refine lv_aload_n S.1 S.2.1 dX7_bestRow_0 rfl (lv_at hl 0 rfl) ?_
  refine g7 S hI 0 rfl 0 (by decide) tw_236 rfl dX7_bestRow_1 ?_
  refine lv_iload_n S.1 S.2.1 dX7_bestRow_4 rfl (lv_at hl 1 rfl) ?_
  refine kX6_has S hI hG tw_292 (rok (by decide)) hl.1 (Nat.le_of_ble_eq_true rfl) dX7_bestRow_5 ?_
  refine ly_ifne (tgt := 13) S bI_e2 bI_e1 dX7_bestRow_8 (by decide) (fun h1 => ?_) (fun h1 => ?_)
  · skip
    exact absurd h1 (by rw [hv]; decide)
  · skip
    refine lv_iconst (v := (-1)) S.1 S.2.1 dX7_bestRow_11 (by decide) ?_
    exact rt_i S hr hlk rfl dX7_bestRow_12
theorem kX7_bestRow_a {p : Program} {l : Launch} {e : Env} {R : Room} {s : State} {m : MethodId} {args : Array Value} {below : List Frame} {meth : Method} {c : Code} {H : Heap} {locs : List Loc} {cells slots : Nat} {Q : State → Prop} {cc : ByteArray} {nL index pc : Nat} {own : String} {ls : Array Slot} {rest : List Value} {D : va_G} {K : Nat → ClassId} {b : Nat → Nat} {w n lap : Nat} {op mu ba la en : Nat → Nat} {pr : Nat → Option Nat} {fr : Bool} {co : Nat → Nat → Nat} {cw cj : Nat → Int64} {cl : Nat} {rv : Int64} {rc : Nat} {pj : Nat → Nat → Nat} {pw ch : Nat → Nat} {pl lc : Nat} {tl : Nat → Nat} {v : Int32} (S : CallFix p m c cc nL s args lw_tb own) (hI : PI D K (cW K b w n lap op mu ba la en pr fr co cw cj cl rv rc pj pw ch pl lc tl) s H) (hG : GOK w n lap op mu ba la en pr) (hv : wiI v 0 (nI n - 1) = false) (hlink : Cond.methodLink own index yX7_bestRow ∈ lw_tb) (hR : RO 6 R cells slots) (hsz : ls.size = nL) (hW : (rest.map fun v => v.category).sum ≤ 8) (hdg : decode cc pc = .ok (.invokevirtual index, 3)) (kk : W p l e R s m args below meth c H locs cells slots Q (F0 m (pc + 3) ls (.int ((-1)) :: rest))) : W p l e R s m args below meth c H locs cells slots Q (F0 m pc ls (.int v :: .ref (b 0) :: rest)) :=
  kV (As := [.int v]) (b := b 0) S (mX7_bestRow_a l hG hv) hlink tw_499 tw_500 tw_42 tw_501 (by show _ ∧ _ ∧ _ = some 1; decide +kernel) (by decide) hR blP (piU hI) (va_recv hI.2 hI.1 (ci := 7) (q0 := 0) rfl rfl) hsz rfl hW hdg kk

set_option maxHeartbeats 4000000 in
set_option maxRecDepth 100000 in
theorem mX7_bestOf_a (l : Launch) {D : va_G} {K : Nat → ClassId} {b : Nat → Nat} {w n lap : Nat} {op mu ba la en : Nat → Nat} {pr : Nat → Option Nat} {fr : Bool} {co : Nat → Nat → Nat} {cw cj : Nat → Int64} {cl : Nat} {rv : Int64} {rc : Nat} {pj : Nat → Nat → Nat} {pw ch : Nat → Nat} {pl lc : Nat} {tl : Nat → Nat} {v : Int32} (hG : GOK w n lap op mu ba la en pr) (hv : wiI v (nI 1) (nI 6) = false) : Met l yX7_bestOf (TWd yX7_bestOf cX7_bestOf 3 (some .int)) (rmk 6) (va_Pc [.ref (b 0), .int v] (fun U => PI D K (cW K b w n lap op mu ba la en pr fr co cw cj cl rv rc pj pw ch pl lc tl) U U.heap)) (QcRead ((-2))) 0 0 (fun _ => False) := by
  refine mt_of (by decide +kernel) (Nat.le_of_ble_eq_true rfl) ?_
  intro p e s m below meth c S hr hlk hI ls hl
  have S : CallFix p m c cX7_bestOf 3 s ([.ref (b 0), .int v] : List Value).toArray lw_tb RX7 := S
  have hl : lv_has ls 3 [(0, .ref (b 0)), (1, .int v)] := hl
  obtain ⟨gw1, gw2, gn, gl1, gl2, gop, gmu, gba, gla, gen, gpr, gop2, gmu2, gba2, gla2, gme, gbe, gle, gee⟩ := id hG
  refine lv_iload_n S.1 S.2.1 dX7_bestOf_0 rfl (lv_at hl 1 rfl) ?_
  refine lv_iconst (v := nI 1) S.1 S.2.1 dX7_bestOf_1 (by decide) ?_
  refine ly_cmlt (tgt := 11) S (fun q => q) (fun q => q) dX7_bestOf_2 (by decide) (fun h1 => ?_) (fun h1 => ?_)
  · skip
    refine lv_bipush (v := (-2)) S.1 S.2.1 dX7_bestOf_11 (by decide) ?_
    exact rt_i S hr hlk rfl dX7_bestOf_13
  · skip
    refine lv_iload_n S.1 S.2.1 dX7_bestOf_5 rfl (lv_at hl 1 rfl) ?_
    refine lv_bipush (v := nI 6) S.1 S.2.1 dX7_bestOf_6 (by decide) ?_
    refine ly_cmle (tgt := 14) S (fun q => q) (fun q => q) dX7_bestOf_8 (by decide) (fun h2 => ?_) (fun h2 => ?_)
    · skip
      exact absurd (wiI_t h1 (Int32.not_lt.mpr h2)) (by rw [hv]; decide)
    · skip
      refine lv_bipush (v := (-2)) S.1 S.2.1 dX7_bestOf_11 (by decide) ?_
      exact rt_i S hr hlk rfl dX7_bestOf_13
theorem kX7_bestOf_a {p : Program} {l : Launch} {e : Env} {R : Room} {s : State} {m : MethodId} {args : Array Value} {below : List Frame} {meth : Method} {c : Code} {H : Heap} {locs : List Loc} {cells slots : Nat} {Q : State → Prop} {cc : ByteArray} {nL index pc : Nat} {own : String} {ls : Array Slot} {rest : List Value} {D : va_G} {K : Nat → ClassId} {b : Nat → Nat} {w n lap : Nat} {op mu ba la en : Nat → Nat} {pr : Nat → Option Nat} {fr : Bool} {co : Nat → Nat → Nat} {cw cj : Nat → Int64} {cl : Nat} {rv : Int64} {rc : Nat} {pj : Nat → Nat → Nat} {pw ch : Nat → Nat} {pl lc : Nat} {tl : Nat → Nat} {v : Int32} (S : CallFix p m c cc nL s args lw_tb own) (hI : PI D K (cW K b w n lap op mu ba la en pr fr co cw cj cl rv rc pj pw ch pl lc tl) s H) (hG : GOK w n lap op mu ba la en pr) (hv : wiI v (nI 1) (nI 6) = false) (hlink : Cond.methodLink own index yX7_bestOf ∈ lw_tb) (hR : RO 6 R cells slots) (hsz : ls.size = nL) (hW : (rest.map fun v => v.category).sum ≤ 8) (hdg : decode cc pc = .ok (.invokevirtual index, 3)) (kk : W p l e R s m args below meth c H locs cells slots Q (F0 m (pc + 3) ls (.int ((-2)) :: rest))) : W p l e R s m args below meth c H locs cells slots Q (F0 m pc ls (.int v :: .ref (b 0) :: rest)) :=
  kV (As := [.int v]) (b := b 0) S (mX7_bestOf_a l hG hv) hlink tw_507 tw_508 tw_42 tw_509 (by show _ ∧ _ ∧ _ = some 1; decide +kernel) (by decide) hR blP (piU hI) (va_recv hI.2 hI.1 (ci := 7) (q0 := 0) rfl rfl) hsz rfl hW hdg kk

set_option maxHeartbeats 4000000 in
set_option maxRecDepth 100000 in
theorem mX7_bestRow_n (l : Launch) {D : va_G} {K : Nat → ClassId} {b : Nat → Nat} {w n lap : Nat} {op mu ba la en : Nat → Nat} {pr : Nat → Option Nat} {fr : Bool} {co : Nat → Nat → Nat} {cw cj : Nat → Int64} {cl : Nat} {rv : Int64} {rc : Nat} {pj : Nat → Nat → Nat} {pw ch : Nat → Nat} {pl lc : Nat} {tl : Nat → Nat} {ci : Nat} (hDis : Dis b 44) (hG : GOK w n lap op mu ba la en pr) (hVO : VOK w n op mu ba en pr fr co cl rv rc pj pw ch pl lc tl) (hc : ci < n) (hb : bsS w op mu ba en pr n lap = 1000000000) : Met l yX7_bestRow (TWd yX7_bestRow cX7_bestRow 2 (some .int)) (rmk 6) (va_Pc [.ref (b 0), .int (nI ci)] (fun U => PI D K (cW K b w n lap op mu ba la en pr fr co cw cj cl rv rc pj pw ch pl lc tl) U U.heap)) (QX D K (fun u : CSc => some (.int (-3))) (fun u => (cW K b w n lap op mu ba la en pr u.1 u.2.1 u.2.2.1 u.2.2.2.1 u.2.2.2.2.1 u.2.2.2.2.2.1 u.2.2.2.2.2.2.1 u.2.2.2.2.2.2.2.1 u.2.2.2.2.2.2.2.2.1 u.2.2.2.2.2.2.2.2.2.1 u.2.2.2.2.2.2.2.2.2.2.1 u.2.2.2.2.2.2.2.2.2.2.2.1 u.2.2.2.2.2.2.2.2.2.2.2.2)) (fun u => VOKu w n op mu ba en pr u) (adA b 44)) 0 0 (adA b 44) := by
  refine mt_of (by decide +kernel) (Nat.le_of_ble_eq_true rfl) ?_
  intro p e s m below meth c S hr hlk hI ls hl
  have S : CallFix p m c cX7_bestRow 2 s ([.ref (b 0), .int (nI ci)] : List Value).toArray lw_tb RX7 := S
  have hl : lv_has ls 2 [(0, .ref (b 0)), (1, .int (nI ci))] := hl
  have hS : va_S (adA b 44) s.heap s.heap [] := va_S.rf
  obtain ⟨gw1, gw2, gn, gl1, gl2, gop, gmu, gba, gla, gen, gpr, gop2, gmu2, gba2, gla2, gme, gbe, gle, gee⟩ := id hG
  obtain ⟨v1, v2, v3, v4, v5, v6, v7, v8, v9, v10, v11⟩ := id hVO
  refine lv_aload_n S.1 S.2.1 dX7_bestRow_0 rfl (lv_at hl 0 rfl) ?_
  refine g7 S hI 0 rfl 0 (by decide) tw_236 rfl dX7_bestRow_1 ?_
  refine lv_iload_n S.1 S.2.1 dX7_bestRow_4 rfl (lv_at hl 1 rfl) ?_
  refine kX6_has S hI hG tw_292 (rok (by decide)) hl.1 (Nat.le_of_ble_eq_true rfl) dX7_bestRow_5 ?_
  refine ly_ifne (tgt := 13) S bI_e2 bI_e1 dX7_bestRow_8 (by decide) (fun h1 => ?_) (fun h1 => ?_)
  · skip
    refine lv_aload_n S.1 S.2.1 dX7_bestRow_13 rfl (lv_at hl 0 rfl) ?_
    refine g7 S hI 0 rfl 3 (by decide) tw_239 rfl dX7_bestRow_14 ?_
    refine lv_aload_n S.1 S.2.1 dX7_bestRow_17 rfl (lv_at hl 0 rfl) ?_
    refine g7 S hI 0 rfl 0 (by decide) tw_236 rfl dX7_bestRow_18 ?_
    refine g6 S hI 1 rfl 5 (by decide) tw_134 rfl dX7_bestRow_21 ?_
    refine kX3_renew S hI hS hDis hG (by omega) (by omega) v1 v2 v5 v6 v7 v8 v10 tw_466 (rok (by decide)) hl.1 (Nat.le_of_ble_eq_true rfl) dX7_bestRow_24 (fun u2 H locs hu2 hI hS _ _ => ?_)
    obtain ⟨r1, r2, r3, r4, r5, r6, r7⟩ := hu2
    have r8 : u2.2.2.2.2.2 ≤ 1000000 := by rw [r6]; exact pwT_le _ _
    refine lv_aload_n S.1 S.2.1 dX7_bestRow_27 rfl (lv_at hl 0 rfl) ?_
    refine g7 S hI 0 rfl 3 (by decide) tw_239 rfl dX7_bestRow_28 ?_
    refine kX3_isNone S hI hG r8 tw_494 (rok (by decide)) hl.1 (Nat.le_of_ble_eq_true rfl) dX7_bestRow_31 ?_
    refine ly_ifeq (tgt := 42) S bI_e1 bI_e2 dX7_bestRow_34 (by decide) (fun h3 => ?_) (fun h3 => ?_)
    · skip
      exact absurd hb (be_y1 hG gl1 gl2 r6 h3)
    · skip
      refine lv_bipush (v := (-3)) S.1 S.2.1 dX7_bestRow_37 (by decide) ?_
      refine lv_goto (tgt := 50) S.1 S.2.1 dX7_bestRow_39 (by decide) ?_
      exact rw_i S hr hlk (u2.1, u2.2.1, cw, cj, cl, rv, rc, u2.2.2.1, u2.2.2.2.1, u2.2.2.2.2.1, lap, u2.2.2.2.2.2, tl) rfl ⟨r1, r2, v3, v4, gl2, r3, r5, r4, r8, fun _ => ⟨r6, r7⟩, v11⟩ hI hS dX7_bestRow_50
  · skip
    exact absurd h1 (by rw [wiC (by omega) (by omega)]; decide)
theorem kX7_bestRow_n {p : Program} {l : Launch} {e : Env} {R : Room} {s : State} {m : MethodId} {args : Array Value} {below : List Frame} {meth : Method} {c : Code} {H H0 : Heap} {locs : List Loc} {cells slots : Nat} {Q : State → Prop} {cc : ByteArray} {nL index pc : Nat} {own : String} {ls : Array Slot} {rest : List Value} {D : va_G} {K : Nat → ClassId} {b : Nat → Nat} {w n lap : Nat} {op mu ba la en : Nat → Nat} {pr : Nat → Option Nat} {fr : Bool} {co : Nat → Nat → Nat} {cw cj : Nat → Int64} {cl : Nat} {rv : Int64} {rc : Nat} {pj : Nat → Nat → Nat} {pw ch : Nat → Nat} {pl lc : Nat} {tl : Nat → Nat} {ci : Nat} (S : CallFix p m c cc nL s args lw_tb own) (hI : PI D K (cW K b w n lap op mu ba la en pr fr co cw cj cl rv rc pj pw ch pl lc tl) s H) (hS : va_S (adA b 44) H0 H locs) (hDis : Dis b 44) (hG : GOK w n lap op mu ba la en pr) (hVO : VOK w n op mu ba en pr fr co cl rv rc pj pw ch pl lc tl) (hc : ci < n) (hb : bsS w op mu ba en pr n lap = 1000000000) (hlink : Cond.methodLink own index yX7_bestRow ∈ lw_tb) (hR : RO 6 R cells slots) (hsz : ls.size = nL) (hW : (rest.map fun v => v.category).sum ≤ 8) (hdg : decode cc pc = .ok (.invokevirtual index, 3)) (kk : ∀ (u : CSc) (H1 : Heap) (locs1 : List Loc), (VOKu w n op mu ba en pr u) → PI D K (cW K b w n lap op mu ba la en pr u.1 u.2.1 u.2.2.1 u.2.2.2.1 u.2.2.2.2.1 u.2.2.2.2.2.1 u.2.2.2.2.2.2.1 u.2.2.2.2.2.2.2.1 u.2.2.2.2.2.2.2.2.1 u.2.2.2.2.2.2.2.2.2.1 u.2.2.2.2.2.2.2.2.2.2.1 u.2.2.2.2.2.2.2.2.2.2.2.1 u.2.2.2.2.2.2.2.2.2.2.2.2) s H1 → va_S (adA b 44) H0 H1 locs1 → H.size ≤ H1.size → (∀ q : Nat, q < H.size → ¬ (adA b 44) q → H1[q]? = H[q]?) → W p l e R s m args below meth c H1 locs1 cells slots Q (F0 m (pc + 3) ls ((.int (-3)) :: rest))) : W p l e R s m args below meth c H locs cells slots Q (F0 m pc ls (.int (nI ci) :: .ref (b 0) :: rest)) :=
  kVX (As := [.int (nI ci)]) (b := b 0) S (mX7_bestRow_n l hDis hG hVO hc hb) hlink tw_499 tw_500 tw_42 tw_501 (by show _ ∧ _ ∧ _ = some 1; decide +kernel) (by decide) hR blP (piU hI) (va_recv hI.2 hI.1 (ci := 7) (q0 := 0) rfl rfl) hS (fun _ h => h) hsz rfl hW hdg kk

set_option maxHeartbeats 4000000 in
set_option maxRecDepth 100000 in
theorem mX7_bestOf_n (l : Launch) {D : va_G} {K : Nat → ClassId} {b : Nat → Nat} {w n lap : Nat} {op mu ba la en : Nat → Nat} {pr : Nat → Option Nat} {fr : Bool} {co : Nat → Nat → Nat} {cw cj : Nat → Int64} {cl : Nat} {rv : Int64} {rc : Nat} {pj : Nat → Nat → Nat} {pw ch : Nat → Nat} {pl lc : Nat} {tl : Nat → Nat} {L : Nat} (hDis : Dis b 44) (hG : GOK w n lap op mu ba la en pr) (hVO : VOK w n op mu ba en pr fr co cl rv rc pj pw ch pl lc tl) (h1L : 1 ≤ L) (h2L : L ≤ 6) (hb : bsS w op mu ba en pr n lap = 1000000000) : Met l yX7_bestOf (TWd yX7_bestOf cX7_bestOf 3 (some .int)) (rmk 6) (va_Pc [.ref (b 0), .int (nI L)] (fun U => PI D K (cW K b w n lap op mu ba la en pr fr co cw cj cl rv rc pj pw ch pl lc tl) U U.heap)) (QX D K (fun u : CSc => some (.int (-3))) (fun u => (cW K b w n lap op mu ba la en pr u.1 u.2.1 u.2.2.1 u.2.2.2.1 u.2.2.2.2.1 u.2.2.2.2.2.1 u.2.2.2.2.2.2.1 u.2.2.2.2.2.2.2.1 u.2.2.2.2.2.2.2.2.1 u.2.2.2.2.2.2.2.2.2.1 u.2.2.2.2.2.2.2.2.2.2.1 u.2.2.2.2.2.2.2.2.2.2.2.1 u.2.2.2.2.2.2.2.2.2.2.2.2)) (fun u => VOKu w n op mu ba en pr u) (adA b 44)) 0 0 (adA b 44) := by
  refine mt_of (by decide +kernel) (Nat.le_of_ble_eq_true rfl) ?_
  intro p e s m below meth c S hr hlk hI ls hl
  have S : CallFix p m c cX7_bestOf 3 s ([.ref (b 0), .int (nI L)] : List Value).toArray lw_tb RX7 := S
  have hl : lv_has ls 3 [(0, .ref (b 0)), (1, .int (nI L))] := hl
  have hS : va_S (adA b 44) s.heap s.heap [] := va_S.rf
  obtain ⟨gw1, gw2, gn, gl1, gl2, gop, gmu, gba, gla, gen, gpr, gop2, gmu2, gba2, gla2, gme, gbe, gle, gee⟩ := id hG
  obtain ⟨v1, v2, v3, v4, v5, v6, v7, v8, v9, v10, v11⟩ := id hVO
  refine lv_iload_n S.1 S.2.1 dX7_bestOf_0 rfl (lv_at hl 1 rfl) ?_
  refine lv_iconst (v := nI 1) S.1 S.2.1 dX7_bestOf_1 (by decide) ?_
  refine ly_cmlt (tgt := 11) S (nI_l1 (by omega) (by omega)) (nI_l2 (by omega) (by omega)) dX7_bestOf_2 (by decide) (fun h1 => ?_) (fun h1 => ?_)
  · skip
    exact absurd h1 (by omega)
  · skip
    refine lv_iload_n S.1 S.2.1 dX7_bestOf_5 rfl (lv_at hl 1 rfl) ?_
    refine lv_bipush (v := nI 6) S.1 S.2.1 dX7_bestOf_6 (by decide) ?_
    refine ly_cmle (tgt := 14) S (nI_le1 (by omega) (by omega)) (nI_le2 (by omega) (by omega)) dX7_bestOf_8 (by decide) (fun h2 => ?_) (fun h2 => ?_)
    · skip
      refine lv_aload_n S.1 S.2.1 dX7_bestOf_14 rfl (lv_at hl 0 rfl) ?_
      refine g7 S hI 0 rfl 3 (by decide) tw_239 rfl dX7_bestOf_15 ?_
      refine lv_aload_n S.1 S.2.1 dX7_bestOf_18 rfl (lv_at hl 0 rfl) ?_
      refine g7 S hI 0 rfl 0 (by decide) tw_236 rfl dX7_bestOf_19 ?_
      refine g6 S hI 1 rfl 5 (by decide) tw_134 rfl dX7_bestOf_22 ?_
      refine kX3_renew S hI hS hDis hG (by omega) (by omega) v1 v2 v5 v6 v7 v8 v10 tw_466 (rok (by decide)) hl.1 (Nat.le_of_ble_eq_true rfl) dX7_bestOf_25 (fun u3 H locs hu3 hI hS _ _ => ?_)
      obtain ⟨r1, r2, r3, r4, r5, r6, r7⟩ := hu3
      have r8 : u3.2.2.2.2.2 ≤ 1000000 := by rw [r6]; exact pwT_le _ _
      refine lv_aload_n S.1 S.2.1 dX7_bestOf_28 rfl (lv_at hl 0 rfl) ?_
      refine g7 S hI 0 rfl 3 (by decide) tw_239 rfl dX7_bestOf_29 ?_
      refine kX3_isNone S hI hG r8 tw_494 (rok (by decide)) hl.1 (Nat.le_of_ble_eq_true rfl) dX7_bestOf_32 ?_
      refine ly_ifeq (tgt := 41) S bI_e1 bI_e2 dX7_bestOf_35 (by decide) (fun h4 => ?_) (fun h4 => ?_)
      · skip
        exact absurd hb (be_y1 hG gl1 gl2 r6 h4)
      · skip
        refine lv_bipush (v := (-3)) S.1 S.2.1 dX7_bestOf_38 (by decide) ?_
        exact rw_i S hr hlk (u3.1, u3.2.1, cw, cj, cl, rv, rc, u3.2.2.1, u3.2.2.2.1, u3.2.2.2.2.1, lap, u3.2.2.2.2.2, tl) rfl ⟨r1, r2, v3, v4, gl2, r3, r5, r4, r8, fun _ => ⟨r6, r7⟩, v11⟩ hI hS dX7_bestOf_40
    · skip
      exact absurd h2 (by omega)
theorem kX7_bestOf_n {p : Program} {l : Launch} {e : Env} {R : Room} {s : State} {m : MethodId} {args : Array Value} {below : List Frame} {meth : Method} {c : Code} {H H0 : Heap} {locs : List Loc} {cells slots : Nat} {Q : State → Prop} {cc : ByteArray} {nL index pc : Nat} {own : String} {ls : Array Slot} {rest : List Value} {D : va_G} {K : Nat → ClassId} {b : Nat → Nat} {w n lap : Nat} {op mu ba la en : Nat → Nat} {pr : Nat → Option Nat} {fr : Bool} {co : Nat → Nat → Nat} {cw cj : Nat → Int64} {cl : Nat} {rv : Int64} {rc : Nat} {pj : Nat → Nat → Nat} {pw ch : Nat → Nat} {pl lc : Nat} {tl : Nat → Nat} {L : Nat} (S : CallFix p m c cc nL s args lw_tb own) (hI : PI D K (cW K b w n lap op mu ba la en pr fr co cw cj cl rv rc pj pw ch pl lc tl) s H) (hS : va_S (adA b 44) H0 H locs) (hDis : Dis b 44) (hG : GOK w n lap op mu ba la en pr) (hVO : VOK w n op mu ba en pr fr co cl rv rc pj pw ch pl lc tl) (h1L : 1 ≤ L) (h2L : L ≤ 6) (hb : bsS w op mu ba en pr n lap = 1000000000) (hlink : Cond.methodLink own index yX7_bestOf ∈ lw_tb) (hR : RO 6 R cells slots) (hsz : ls.size = nL) (hW : (rest.map fun v => v.category).sum ≤ 8) (hdg : decode cc pc = .ok (.invokevirtual index, 3)) (kk : ∀ (u : CSc) (H1 : Heap) (locs1 : List Loc), (VOKu w n op mu ba en pr u) → PI D K (cW K b w n lap op mu ba la en pr u.1 u.2.1 u.2.2.1 u.2.2.2.1 u.2.2.2.2.1 u.2.2.2.2.2.1 u.2.2.2.2.2.2.1 u.2.2.2.2.2.2.2.1 u.2.2.2.2.2.2.2.2.1 u.2.2.2.2.2.2.2.2.2.1 u.2.2.2.2.2.2.2.2.2.2.1 u.2.2.2.2.2.2.2.2.2.2.2.1 u.2.2.2.2.2.2.2.2.2.2.2.2) s H1 → va_S (adA b 44) H0 H1 locs1 → H.size ≤ H1.size → (∀ q : Nat, q < H.size → ¬ (adA b 44) q → H1[q]? = H[q]?) → W p l e R s m args below meth c H1 locs1 cells slots Q (F0 m (pc + 3) ls ((.int (-3)) :: rest))) : W p l e R s m args below meth c H locs cells slots Q (F0 m pc ls (.int (nI L) :: .ref (b 0) :: rest)) :=
  kVX (As := [.int (nI L)]) (b := b 0) S (mX7_bestOf_n l hDis hG hVO h1L h2L hb) hlink tw_507 tw_508 tw_42 tw_509 (by show _ ∧ _ ∧ _ = some 1; decide +kernel) (by decide) hR blP (piU hI) (va_recv hI.2 hI.1 (ci := 7) (q0 := 0) rfl rfl) hS (fun _ h => h) hsz rfl hW hdg kk

set_option maxHeartbeats 4000000 in
set_option maxRecDepth 100000 in
theorem mX7_layBest_n (l : Launch) {D : va_G} {K : Nat → ClassId} {b : Nat → Nat} {w n lap : Nat} {op mu ba la en : Nat → Nat} {pr : Nat → Option Nat} {fr : Bool} {co : Nat → Nat → Nat} {cw cj : Nat → Int64} {cl : Nat} {rv : Int64} {rc : Nat} {pj : Nat → Nat → Nat} {pw ch : Nat → Nat} {pl lc : Nat} {tl : Nat → Nat} (hDis : Dis b 44) (hG : GOK w n lap op mu ba la en pr) (hVO : VOK w n op mu ba en pr fr co cl rv rc pj pw ch pl lc tl) (hb : bsS w op mu ba en pr n lap = 1000000000) : Met l yX7_layBest (TWd yX7_layBest cX7_layBest 2 (some .int)) (rmk 6) (va_Pc [.ref (b 0)] (fun U => PI D K (cW K b w n lap op mu ba la en pr fr co cw cj cl rv rc pj pw ch pl lc tl) U U.heap)) (QX D K (fun u : CSc => some (.int (-3))) (fun u => (cW K b w n lap op mu ba la en pr u.1 u.2.1 u.2.2.1 u.2.2.2.1 u.2.2.2.2.1 u.2.2.2.2.2.1 u.2.2.2.2.2.2.1 u.2.2.2.2.2.2.2.1 u.2.2.2.2.2.2.2.2.1 u.2.2.2.2.2.2.2.2.2.1 u.2.2.2.2.2.2.2.2.2.2.1 u.2.2.2.2.2.2.2.2.2.2.2.1 u.2.2.2.2.2.2.2.2.2.2.2.2)) (fun u => VOKu w n op mu ba en pr u) (adA b 44)) 0 0 (adA b 44) := by
  refine mt_of (by decide +kernel) (Nat.le_of_ble_eq_true rfl) ?_
  intro p e s m below meth c S hr hlk hI ls hl
  have S : CallFix p m c cX7_layBest 2 s ([.ref (b 0)] : List Value).toArray lw_tb RX7 := S
  have hl : lv_has ls 2 [(0, .ref (b 0))] := hl
  have hS : va_S (adA b 44) s.heap s.heap [] := va_S.rf
  obtain ⟨gw1, gw2, gn, gl1, gl2, gop, gmu, gba, gla, gen, gpr, gop2, gmu2, gba2, gla2, gme, gbe, gle, gee⟩ := id hG
  obtain ⟨v1, v2, v3, v4, v5, v6, v7, v8, v9, v10, v11⟩ := id hVO
  refine lv_aload_n S.1 S.2.1 dX7_layBest_0 rfl (lv_at hl 0 rfl) ?_
  refine g7 S hI 0 rfl 3 (by decide) tw_239 rfl dX7_layBest_1 ?_
  refine lv_aload_n S.1 S.2.1 dX7_layBest_4 rfl (lv_at hl 0 rfl) ?_
  refine g7 S hI 0 rfl 0 (by decide) tw_236 rfl dX7_layBest_5 ?_
  refine g6 S hI 1 rfl 5 (by decide) tw_134 rfl dX7_layBest_8 ?_
  refine kX3_renew S hI hS hDis hG (by omega) (by omega) v1 v2 v5 v6 v7 v8 v10 tw_466 (rok (by decide)) hl.1 (Nat.le_of_ble_eq_true rfl) dX7_layBest_11 (fun u1 H locs hu1 hI hS _ _ => ?_)
  obtain ⟨r1, r2, r3, r4, r5, r6, r7⟩ := hu1
  have r8 : u1.2.2.2.2.2 ≤ 1000000 := by rw [r6]; exact pwT_le _ _
  refine lv_aload_n S.1 S.2.1 dX7_layBest_14 rfl (lv_at hl 0 rfl) ?_
  refine g7 S hI 0 rfl 3 (by decide) tw_239 rfl dX7_layBest_15 ?_
  refine kX3_isNone S hI hG r8 tw_494 (rok (by decide)) hl.1 (Nat.le_of_ble_eq_true rfl) dX7_layBest_18 ?_
  refine ly_ifeq (tgt := 27) S bI_e1 bI_e2 dX7_layBest_21 (by decide) (fun h2 => ?_) (fun h2 => ?_)
  · skip
    exact absurd hb (be_y1 hG gl1 gl2 r6 h2)
  · skip
    refine lv_bipush (v := (-3)) S.1 S.2.1 dX7_layBest_24 (by decide) ?_
    exact rw_i S hr hlk (u1.1, u1.2.1, cw, cj, cl, rv, rc, u1.2.2.1, u1.2.2.2.1, u1.2.2.2.2.1, lap, u1.2.2.2.2.2, tl) rfl ⟨r1, r2, v3, v4, gl2, r3, r5, r4, r8, fun _ => ⟨r6, r7⟩, v11⟩ hI hS dX7_layBest_26
theorem kX7_layBest_n {p : Program} {l : Launch} {e : Env} {R : Room} {s : State} {m : MethodId} {args : Array Value} {below : List Frame} {meth : Method} {c : Code} {H H0 : Heap} {locs : List Loc} {cells slots : Nat} {Q : State → Prop} {cc : ByteArray} {nL index pc : Nat} {own : String} {ls : Array Slot} {rest : List Value} {D : va_G} {K : Nat → ClassId} {b : Nat → Nat} {w n lap : Nat} {op mu ba la en : Nat → Nat} {pr : Nat → Option Nat} {fr : Bool} {co : Nat → Nat → Nat} {cw cj : Nat → Int64} {cl : Nat} {rv : Int64} {rc : Nat} {pj : Nat → Nat → Nat} {pw ch : Nat → Nat} {pl lc : Nat} {tl : Nat → Nat} (S : CallFix p m c cc nL s args lw_tb own) (hI : PI D K (cW K b w n lap op mu ba la en pr fr co cw cj cl rv rc pj pw ch pl lc tl) s H) (hS : va_S (adA b 44) H0 H locs) (hDis : Dis b 44) (hG : GOK w n lap op mu ba la en pr) (hVO : VOK w n op mu ba en pr fr co cl rv rc pj pw ch pl lc tl) (hb : bsS w op mu ba en pr n lap = 1000000000) (hlink : Cond.methodLink own index yX7_layBest ∈ lw_tb) (hR : RO 6 R cells slots) (hsz : ls.size = nL) (hW : (rest.map fun v => v.category).sum ≤ 8) (hdg : decode cc pc = .ok (.invokevirtual index, 3)) (kk : ∀ (u : CSc) (H1 : Heap) (locs1 : List Loc), (VOKu w n op mu ba en pr u) → PI D K (cW K b w n lap op mu ba la en pr u.1 u.2.1 u.2.2.1 u.2.2.2.1 u.2.2.2.2.1 u.2.2.2.2.2.1 u.2.2.2.2.2.2.1 u.2.2.2.2.2.2.2.1 u.2.2.2.2.2.2.2.2.1 u.2.2.2.2.2.2.2.2.2.1 u.2.2.2.2.2.2.2.2.2.2.1 u.2.2.2.2.2.2.2.2.2.2.2.1 u.2.2.2.2.2.2.2.2.2.2.2.2) s H1 → va_S (adA b 44) H0 H1 locs1 → H.size ≤ H1.size → (∀ q : Nat, q < H.size → ¬ (adA b 44) q → H1[q]? = H[q]?) → W p l e R s m args below meth c H1 locs1 cells slots Q (F0 m (pc + 3) ls ((.int (-3)) :: rest))) : W p l e R s m args below meth c H locs cells slots Q (F0 m pc ls (.ref (b 0) :: rest)) :=
  kVX (As := []) (b := b 0) S (mX7_layBest_n l hDis hG hVO hb) hlink tw_527 tw_528 tw_42 tw_529 (by show _ ∧ _ ∧ _ = some 0; decide +kernel) (by decide) hR blP (piU hI) (va_recv hI.2 hI.1 (ci := 7) (q0 := 0) rfl rfl) hS (fun _ h => h) hsz rfl hW hdg kk

set_option maxHeartbeats 4000000 in
set_option maxRecDepth 100000 in
theorem mX7_bestRow_y (l : Launch) {D : va_G} {K : Nat → ClassId} {b : Nat → Nat} {w n lap : Nat} {op mu ba la en : Nat → Nat} {pr : Nat → Option Nat} {fr : Bool} {co : Nat → Nat → Nat} {cw cj : Nat → Int64} {cl : Nat} {rv : Int64} {rc : Nat} {pj : Nat → Nat → Nat} {pw ch : Nat → Nat} {pl lc : Nat} {tl : Nat → Nat} {ci : Nat} (hDis : Dis b 44) (hG : GOK w n lap op mu ba la en pr) (hVO : VOK w n op mu ba en pr fr co cl rv rc pj pw ch pl lc tl) (hc : ci < n) (hb : bsS w op mu ba en pr n lap ≠ 1000000000) : Met l yX7_bestRow (TWd yX7_bestRow cX7_bestRow 2 (some .int)) (rmk 6) (va_Pc [.ref (b 0), .int (nI ci)] (fun U => PI D K (cW K b w n lap op mu ba la en pr fr co cw cj cl rv rc pj pw ch pl lc tl) U U.heap)) (QX D K (fun u : CSc => some (.int (nI (2 * bsR w op mu ba en pr n lap ci)))) (fun u => (cW K b w n lap op mu ba la en pr u.1 u.2.1 u.2.2.1 u.2.2.2.1 u.2.2.2.2.1 u.2.2.2.2.2.1 u.2.2.2.2.2.2.1 u.2.2.2.2.2.2.2.1 u.2.2.2.2.2.2.2.2.1 u.2.2.2.2.2.2.2.2.2.1 u.2.2.2.2.2.2.2.2.2.2.1 u.2.2.2.2.2.2.2.2.2.2.2.1 u.2.2.2.2.2.2.2.2.2.2.2.2)) (fun u => VOKu w n op mu ba en pr u) (adA b 44)) 0 0 (adA b 44) := by
  refine mt_of (by decide +kernel) (Nat.le_of_ble_eq_true rfl) ?_
  intro p e s m below meth c S hr hlk hI ls hl
  have S : CallFix p m c cX7_bestRow 2 s ([.ref (b 0), .int (nI ci)] : List Value).toArray lw_tb RX7 := S
  have hl : lv_has ls 2 [(0, .ref (b 0)), (1, .int (nI ci))] := hl
  have hS : va_S (adA b 44) s.heap s.heap [] := va_S.rf
  obtain ⟨gw1, gw2, gn, gl1, gl2, gop, gmu, gba, gla, gen, gpr, gop2, gmu2, gba2, gla2, gme, gbe, gle, gee⟩ := id hG
  obtain ⟨v1, v2, v3, v4, v5, v6, v7, v8, v9, v10, v11⟩ := id hVO
  refine lv_aload_n S.1 S.2.1 dX7_bestRow_0 rfl (lv_at hl 0 rfl) ?_
  refine g7 S hI 0 rfl 0 (by decide) tw_236 rfl dX7_bestRow_1 ?_
  refine lv_iload_n S.1 S.2.1 dX7_bestRow_4 rfl (lv_at hl 1 rfl) ?_
  refine kX6_has S hI hG tw_292 (rok (by decide)) hl.1 (Nat.le_of_ble_eq_true rfl) dX7_bestRow_5 ?_
  refine ly_ifne (tgt := 13) S bI_e2 bI_e1 dX7_bestRow_8 (by decide) (fun h1 => ?_) (fun h1 => ?_)
  · skip
    refine lv_aload_n S.1 S.2.1 dX7_bestRow_13 rfl (lv_at hl 0 rfl) ?_
    refine g7 S hI 0 rfl 3 (by decide) tw_239 rfl dX7_bestRow_14 ?_
    refine lv_aload_n S.1 S.2.1 dX7_bestRow_17 rfl (lv_at hl 0 rfl) ?_
    refine g7 S hI 0 rfl 0 (by decide) tw_236 rfl dX7_bestRow_18 ?_
    refine g6 S hI 1 rfl 5 (by decide) tw_134 rfl dX7_bestRow_21 ?_
    refine kX3_renew S hI hS hDis hG (by omega) (by omega) v1 v2 v5 v6 v7 v8 v10 tw_466 (rok (by decide)) hl.1 (Nat.le_of_ble_eq_true rfl) dX7_bestRow_24 (fun u2 H locs hu2 hI hS _ _ => ?_)
    obtain ⟨r1, r2, r3, r4, r5, r6, r7⟩ := hu2
    have r8 : u2.2.2.2.2.2 ≤ 1000000 := by rw [r6]; exact pwT_le _ _
    refine lv_aload_n S.1 S.2.1 dX7_bestRow_27 rfl (lv_at hl 0 rfl) ?_
    refine g7 S hI 0 rfl 3 (by decide) tw_239 rfl dX7_bestRow_28 ?_
    refine kX3_isNone S hI hG r8 tw_494 (rok (by decide)) hl.1 (Nat.le_of_ble_eq_true rfl) dX7_bestRow_31 ?_
    refine ly_ifeq (tgt := 42) S bI_e1 bI_e2 dX7_bestRow_34 (by decide) (fun h3 => ?_) (fun h3 => ?_)
    · skip
      refine lv_aload_n S.1 S.2.1 dX7_bestRow_42 rfl (lv_at hl 0 rfl) ?_
      refine g7 S hI 0 rfl 3 (by decide) tw_239 rfl dX7_bestRow_43 ?_
      refine lv_iload_n S.1 S.2.1 dX7_bestRow_46 rfl (lv_at hl 1 rfl) ?_
      refine kX3_jointsOf S hI hG (by omega) r5 tw_502 (rok (by decide)) hl.1 (Nat.le_of_ble_eq_true rfl) dX7_bestRow_47 ?_
      exact rw_i S hr hlk (u2.1, u2.2.1, cw, cj, cl, rv, rc, u2.2.2.1, u2.2.2.2.1, u2.2.2.2.2.1, lap, u2.2.2.2.2.2, tl) (by rw [r7 ci hc, M_ch hG gl1 gl2 hb ci hc]) ⟨r1, r2, v3, v4, gl2, r3, r5, r4, r8, fun _ => ⟨r6, r7⟩, v11⟩ hI hS dX7_bestRow_50
    · skip
      exact absurd (be_n1 hG gl1 gl2 r6 h3) hb
  · skip
    exact absurd h1 (by rw [wiC (by omega) (by omega)]; decide)
theorem kX7_bestRow_y {p : Program} {l : Launch} {e : Env} {R : Room} {s : State} {m : MethodId} {args : Array Value} {below : List Frame} {meth : Method} {c : Code} {H H0 : Heap} {locs : List Loc} {cells slots : Nat} {Q : State → Prop} {cc : ByteArray} {nL index pc : Nat} {own : String} {ls : Array Slot} {rest : List Value} {D : va_G} {K : Nat → ClassId} {b : Nat → Nat} {w n lap : Nat} {op mu ba la en : Nat → Nat} {pr : Nat → Option Nat} {fr : Bool} {co : Nat → Nat → Nat} {cw cj : Nat → Int64} {cl : Nat} {rv : Int64} {rc : Nat} {pj : Nat → Nat → Nat} {pw ch : Nat → Nat} {pl lc : Nat} {tl : Nat → Nat} {ci : Nat} (S : CallFix p m c cc nL s args lw_tb own) (hI : PI D K (cW K b w n lap op mu ba la en pr fr co cw cj cl rv rc pj pw ch pl lc tl) s H) (hS : va_S (adA b 44) H0 H locs) (hDis : Dis b 44) (hG : GOK w n lap op mu ba la en pr) (hVO : VOK w n op mu ba en pr fr co cl rv rc pj pw ch pl lc tl) (hc : ci < n) (hb : bsS w op mu ba en pr n lap ≠ 1000000000) (hlink : Cond.methodLink own index yX7_bestRow ∈ lw_tb) (hR : RO 6 R cells slots) (hsz : ls.size = nL) (hW : (rest.map fun v => v.category).sum ≤ 8) (hdg : decode cc pc = .ok (.invokevirtual index, 3)) (kk : ∀ (u : CSc) (H1 : Heap) (locs1 : List Loc), (VOKu w n op mu ba en pr u) → PI D K (cW K b w n lap op mu ba la en pr u.1 u.2.1 u.2.2.1 u.2.2.2.1 u.2.2.2.2.1 u.2.2.2.2.2.1 u.2.2.2.2.2.2.1 u.2.2.2.2.2.2.2.1 u.2.2.2.2.2.2.2.2.1 u.2.2.2.2.2.2.2.2.2.1 u.2.2.2.2.2.2.2.2.2.2.1 u.2.2.2.2.2.2.2.2.2.2.2.1 u.2.2.2.2.2.2.2.2.2.2.2.2) s H1 → va_S (adA b 44) H0 H1 locs1 → H.size ≤ H1.size → (∀ q : Nat, q < H.size → ¬ (adA b 44) q → H1[q]? = H[q]?) → W p l e R s m args below meth c H1 locs1 cells slots Q (F0 m (pc + 3) ls ((.int (nI (2 * bsR w op mu ba en pr n lap ci))) :: rest))) : W p l e R s m args below meth c H locs cells slots Q (F0 m pc ls (.int (nI ci) :: .ref (b 0) :: rest)) :=
  kVX (As := [.int (nI ci)]) (b := b 0) S (mX7_bestRow_y l hDis hG hVO hc hb) hlink tw_499 tw_500 tw_42 tw_501 (by show _ ∧ _ ∧ _ = some 1; decide +kernel) (by decide) hR blP (piU hI) (va_recv hI.2 hI.1 (ci := 7) (q0 := 0) rfl rfl) hS (fun _ h => h) hsz rfl hW hdg kk

set_option maxHeartbeats 4000000 in
set_option maxRecDepth 100000 in
theorem mX7_bestOf_y (l : Launch) {D : va_G} {K : Nat → ClassId} {b : Nat → Nat} {w n lap : Nat} {op mu ba la en : Nat → Nat} {pr : Nat → Option Nat} {fr : Bool} {co : Nat → Nat → Nat} {cw cj : Nat → Int64} {cl : Nat} {rv : Int64} {rc : Nat} {pj : Nat → Nat → Nat} {pw ch : Nat → Nat} {pl lc : Nat} {tl : Nat → Nat} {L : Nat} (hDis : Dis b 44) (hG : GOK w n lap op mu ba la en pr) (hVO : VOK w n op mu ba en pr fr co cl rv rc pj pw ch pl lc tl) (h1L : 1 ≤ L) (h2L : L ≤ 6) (hb : bsS w op mu ba en pr n lap ≠ 1000000000) : Met l yX7_bestOf (TWd yX7_bestOf cX7_bestOf 3 (some .int)) (rmk 6) (va_Pc [.ref (b 0), .int (nI L)] (fun U => PI D K (cW K b w n lap op mu ba la en pr fr co cw cj cl rv rc pj pw ch pl lc tl) U U.heap)) (QX D K (fun u : CSc => some (.int (nI (sumN (fun q => pcF w (op q) (2 * bsR w op mu ba en pr n lap q) L) n)))) (fun u => (cW K b w n lap op mu ba la en pr u.1 u.2.1 u.2.2.1 u.2.2.2.1 u.2.2.2.2.1 u.2.2.2.2.2.1 u.2.2.2.2.2.2.1 u.2.2.2.2.2.2.2.1 u.2.2.2.2.2.2.2.2.1 u.2.2.2.2.2.2.2.2.2.1 u.2.2.2.2.2.2.2.2.2.2.1 u.2.2.2.2.2.2.2.2.2.2.2.1 u.2.2.2.2.2.2.2.2.2.2.2.2)) (fun u => VOKu w n op mu ba en pr u) (adA b 44)) 0 0 (adA b 44) := by
  refine mt_of (by decide +kernel) (Nat.le_of_ble_eq_true rfl) ?_
  intro p e s m below meth c S hr hlk hI ls hl
  have S : CallFix p m c cX7_bestOf 3 s ([.ref (b 0), .int (nI L)] : List Value).toArray lw_tb RX7 := S
  have hl : lv_has ls 3 [(0, .ref (b 0)), (1, .int (nI L))] := hl
  have hS : va_S (adA b 44) s.heap s.heap [] := va_S.rf
  obtain ⟨gw1, gw2, gn, gl1, gl2, gop, gmu, gba, gla, gen, gpr, gop2, gmu2, gba2, gla2, gme, gbe, gle, gee⟩ := id hG
  obtain ⟨v1, v2, v3, v4, v5, v6, v7, v8, v9, v10, v11⟩ := id hVO
  refine lv_iload_n S.1 S.2.1 dX7_bestOf_0 rfl (lv_at hl 1 rfl) ?_
  refine lv_iconst (v := nI 1) S.1 S.2.1 dX7_bestOf_1 (by decide) ?_
  refine ly_cmlt (tgt := 11) S (nI_l1 (by omega) (by omega)) (nI_l2 (by omega) (by omega)) dX7_bestOf_2 (by decide) (fun h1 => ?_) (fun h1 => ?_)
  · skip
    exact absurd h1 (by omega)
  · skip
    refine lv_iload_n S.1 S.2.1 dX7_bestOf_5 rfl (lv_at hl 1 rfl) ?_
    refine lv_bipush (v := nI 6) S.1 S.2.1 dX7_bestOf_6 (by decide) ?_
    refine ly_cmle (tgt := 14) S (nI_le1 (by omega) (by omega)) (nI_le2 (by omega) (by omega)) dX7_bestOf_8 (by decide) (fun h2 => ?_) (fun h2 => ?_)
    · skip
      refine lv_aload_n S.1 S.2.1 dX7_bestOf_14 rfl (lv_at hl 0 rfl) ?_
      refine g7 S hI 0 rfl 3 (by decide) tw_239 rfl dX7_bestOf_15 ?_
      refine lv_aload_n S.1 S.2.1 dX7_bestOf_18 rfl (lv_at hl 0 rfl) ?_
      refine g7 S hI 0 rfl 0 (by decide) tw_236 rfl dX7_bestOf_19 ?_
      refine g6 S hI 1 rfl 5 (by decide) tw_134 rfl dX7_bestOf_22 ?_
      refine kX3_renew S hI hS hDis hG (by omega) (by omega) v1 v2 v5 v6 v7 v8 v10 tw_466 (rok (by decide)) hl.1 (Nat.le_of_ble_eq_true rfl) dX7_bestOf_25 (fun u3 H locs hu3 hI hS _ _ => ?_)
      obtain ⟨r1, r2, r3, r4, r5, r6, r7⟩ := hu3
      have r8 : u3.2.2.2.2.2 ≤ 1000000 := by rw [r6]; exact pwT_le _ _
      refine lv_aload_n S.1 S.2.1 dX7_bestOf_28 rfl (lv_at hl 0 rfl) ?_
      refine g7 S hI 0 rfl 3 (by decide) tw_239 rfl dX7_bestOf_29 ?_
      refine kX3_isNone S hI hG r8 tw_494 (rok (by decide)) hl.1 (Nat.le_of_ble_eq_true rfl) dX7_bestOf_32 ?_
      refine ly_ifeq (tgt := 41) S bI_e1 bI_e2 dX7_bestOf_35 (by decide) (fun h4 => ?_) (fun h4 => ?_)
      · skip
        refine lv_aload_n S.1 S.2.1 dX7_bestOf_41 rfl (lv_at hl 0 rfl) ?_
        refine g7 S hI 0 rfl 4 (by decide) tw_240 rfl dX7_bestOf_42 ?_
        refine kX5_clear S hI hS hDis hG tw_333 (rok (by decide)) hl.1 (Nat.le_of_ble_eq_true rfl) dX7_bestOf_45 (fun u5 H locs hu5 hI hS _ _ => ?_)
        rw [tyS_0 (op := op) (jf := (fun q => 2 * bsR w op mu ba en pr n lap q)) (w := w)] at hI
        refine lv_iconst (v := nI 0) S.1 S.2.1 dX7_bestOf_48 (by decide) ?_
        refine lv_istore_n (lv' := [(2, .int (nI 0)), (0, .ref (b 0)), (1, .int (nI L))]) S.1 S.2.1 dX7_bestOf_49 rfl hl (by decide) rfl (fun ls hl => ?_)
        have L50 : ∀ (f50 : Nat) (k : Nat) (H : Heap) (locs : List Loc), (k ≤ n) → (PI D K (cW K b w n lap op mu ba la en pr u3.1 u3.2.1 cw cj cl rv rc u3.2.2.1 u3.2.2.2.1 u3.2.2.2.2.1 lap u3.2.2.2.2.2 (tyS tl op (fun q => 2 * bsR w op mu ba en pr n lap q) w k)) s H) → (va_S (adA b 44) s.heap H locs) → n - k < f50 → ∀ (ls : Array Slot), lv_has ls 3 [(0, .ref (b 0)), (1, .int (nI L)), (2, .int (nI k))] → W p l e (rmk 6) s m ([.ref (b 0), .int (nI L)] : List Value).toArray below meth c H locs 0 0 (MQ below (QX D K (fun u : CSc => some (.int (nI (sumN (fun q => pcF w (op q) (2 * bsR w op mu ba en pr n lap q) L) n)))) (fun u => (cW K b w n lap op mu ba la en pr u.1 u.2.1 u.2.2.1 u.2.2.2.1 u.2.2.2.2.1 u.2.2.2.2.2.1 u.2.2.2.2.2.2.1 u.2.2.2.2.2.2.2.1 u.2.2.2.2.2.2.2.2.1 u.2.2.2.2.2.2.2.2.2.1 u.2.2.2.2.2.2.2.2.2.2.1 u.2.2.2.2.2.2.2.2.2.2.2.1 u.2.2.2.2.2.2.2.2.2.2.2.2)) (fun u => VOKu w n op mu ba en pr u) (adA b 44)) ([.ref (b 0), .int (nI L)] : List Value).toArray s 0 0 (adA b 44)) (F0 m 50 ls []) := by
          intro f50
          induction f50 with
          | zero =>
            intro k H locs i1 hI hS hm
            exact absurd hm (Nat.not_lt_zero _)
          | succ f50 ih50 =>
            intro k H locs i1 hI hS hm50 ls hl
            refine lv_iload_n S.1 S.2.1 dX7_bestOf_50 rfl (lv_at hl 2 rfl) ?_
            refine lv_aload_n S.1 S.2.1 dX7_bestOf_51 rfl (lv_at hl 0 rfl) ?_
            refine g7 S hI 0 rfl 0 (by decide) tw_236 rfl dX7_bestOf_52 ?_
            refine g6 S hI 1 rfl 4 (by decide) tw_129 rfl dX7_bestOf_55 ?_
            refine ly_cmge (tgt := 94) S (nI_le1 (by omega) (by omega)) (nI_le2 (by omega) (by omega)) dX7_bestOf_58 (by decide) (fun h6 => ?_) (fun h6 => ?_)
            · skip
              have ek : k = n := by omega
              rw [ek] at hI
              refine lv_aload_n S.1 S.2.1 dX7_bestOf_94 rfl (lv_at hl 0 rfl) ?_
              refine g7 S hI 0 rfl 4 (by decide) tw_240 rfl dX7_bestOf_95 ?_
              refine lv_iload_n S.1 S.2.1 dX7_bestOf_98 rfl (lv_at hl 1 rfl) ?_
              refine kX5_of S hI hG (by omega) tw_510 (rok (by decide)) hl.1 (Nat.le_of_ble_eq_true rfl) dX7_bestOf_99 ?_
              exact rw_i S hr hlk (u3.1, u3.2.1, cw, cj, cl, rv, rc, u3.2.2.1, u3.2.2.2.1, u3.2.2.2.2.1, lap, u3.2.2.2.2.2, tyS tl op (fun q => 2 * bsR w op mu ba en pr n lap q) w n) (by rw [tyS_e (by omega)]) ⟨r1, r2, v3, v4, gl2, r3, r5, r4, r8, fun _ => ⟨r6, r7⟩, tyS_le gw2 gn v11⟩ hI hS dX7_bestOf_102
            · skip
              refine lv_aload_n S.1 S.2.1 dX7_bestOf_61 rfl (lv_at hl 0 rfl) ?_
              refine g7 S hI 0 rfl 0 (by decide) tw_236 rfl dX7_bestOf_62 ?_
              refine lv_aload_n S.1 S.2.1 dX7_bestOf_65 rfl (lv_at hl 0 rfl) ?_
              refine g7 S hI 0 rfl 0 (by decide) tw_236 rfl dX7_bestOf_66 ?_
              refine lv_iload_n S.1 S.2.1 dX7_bestOf_69 rfl (lv_at hl 2 rfl) ?_
              refine kX6_at_c S hI (by omega) (by omega) tw_276 (rok (by decide)) hl.1 (Nat.le_of_ble_eq_true rfl) dX7_bestOf_70 ?_
              refine lv_aload_n S.1 S.2.1 dX7_bestOf_73 rfl (lv_at hl 0 rfl) ?_
              refine g7 S hI 0 rfl 3 (by decide) tw_239 rfl dX7_bestOf_74 ?_
              refine lv_iload_n S.1 S.2.1 dX7_bestOf_77 rfl (lv_at hl 2 rfl) ?_
              refine kX3_jointsOf S hI hG (by omega) r5 tw_502 (rok (by decide)) hl.1 (Nat.le_of_ble_eq_true rfl) dX7_bestOf_78 ?_
              refine ly_top (z := (nI (2 * bsR w op mu ba en pr n lap k))) (by rw [r7 k (by omega), M_ch hG gl1 gl2 hb k (by omega)]) ?_
              have o1 := bsP_lt (op := op) (mu := mu) (ba := ba) (en := en) (pr := pr) (n := n) (z := lap) (c := k) gw2 (bsT w op mu ba en pr n lap k)
              have o2 : bsR w op mu ba en pr n lap k < 512 := o1
              refine lv_aload_n S.1 S.2.1 dX7_bestOf_81 rfl (lv_at hl 0 rfl) ?_
              refine g7 S hI 0 rfl 4 (by decide) tw_240 rfl dX7_bestOf_82 ?_
              refine kX6_addPieces S hI hS hDis hG (by first | omega | exact bwc_lt (by omega)) (by omega) (fun q => Nat.le_trans (tyS_le gw2 (by omega) v11 q) (by omega)) tw_340 (rok (by decide)) hl.1 (Nat.le_of_ble_eq_true rfl) dX7_bestOf_85 (fun u7 H locs hu7 hI hS _ _ => ?_)
              rw [gzl (f := op) (by omega), tyS_s (jf := (fun q => 2 * bsR w op mu ba en pr n lap q))] at hI
              refine lv_iinc (v := nI (k + 1)) (lv' := [(2, .int (nI (k + 1))), (0, .ref (b 0)), (1, .int (nI L))]) S.1 S.2.1 dX7_bestOf_88 hl (k := 2) rfl (nJ_in _ _) (by decide) rfl (fun ls hl => ?_)
              refine lv_goto (tgt := 50) S.1 S.2.1 dX7_bestOf_91 (by decide) ?_
              exact ih50 (k + 1) _ _ (by omega) hI hS (by omega) _ (lv_sub hl [1, 2, 0] rfl)
        exact L50 _ 0 _ _ (by omega) hI hS (Nat.lt_succ_self _) _ (lv_sub hl [1, 2, 0] rfl)
      · skip
        exact absurd (be_n1 hG gl1 gl2 r6 h4) hb
    · skip
      exact absurd h2 (by omega)
theorem kX7_bestOf_y {p : Program} {l : Launch} {e : Env} {R : Room} {s : State} {m : MethodId} {args : Array Value} {below : List Frame} {meth : Method} {c : Code} {H H0 : Heap} {locs : List Loc} {cells slots : Nat} {Q : State → Prop} {cc : ByteArray} {nL index pc : Nat} {own : String} {ls : Array Slot} {rest : List Value} {D : va_G} {K : Nat → ClassId} {b : Nat → Nat} {w n lap : Nat} {op mu ba la en : Nat → Nat} {pr : Nat → Option Nat} {fr : Bool} {co : Nat → Nat → Nat} {cw cj : Nat → Int64} {cl : Nat} {rv : Int64} {rc : Nat} {pj : Nat → Nat → Nat} {pw ch : Nat → Nat} {pl lc : Nat} {tl : Nat → Nat} {L : Nat} (S : CallFix p m c cc nL s args lw_tb own) (hI : PI D K (cW K b w n lap op mu ba la en pr fr co cw cj cl rv rc pj pw ch pl lc tl) s H) (hS : va_S (adA b 44) H0 H locs) (hDis : Dis b 44) (hG : GOK w n lap op mu ba la en pr) (hVO : VOK w n op mu ba en pr fr co cl rv rc pj pw ch pl lc tl) (h1L : 1 ≤ L) (h2L : L ≤ 6) (hb : bsS w op mu ba en pr n lap ≠ 1000000000) (hlink : Cond.methodLink own index yX7_bestOf ∈ lw_tb) (hR : RO 6 R cells slots) (hsz : ls.size = nL) (hW : (rest.map fun v => v.category).sum ≤ 8) (hdg : decode cc pc = .ok (.invokevirtual index, 3)) (kk : ∀ (u : CSc) (H1 : Heap) (locs1 : List Loc), (VOKu w n op mu ba en pr u) → PI D K (cW K b w n lap op mu ba la en pr u.1 u.2.1 u.2.2.1 u.2.2.2.1 u.2.2.2.2.1 u.2.2.2.2.2.1 u.2.2.2.2.2.2.1 u.2.2.2.2.2.2.2.1 u.2.2.2.2.2.2.2.2.1 u.2.2.2.2.2.2.2.2.2.1 u.2.2.2.2.2.2.2.2.2.2.1 u.2.2.2.2.2.2.2.2.2.2.2.1 u.2.2.2.2.2.2.2.2.2.2.2.2) s H1 → va_S (adA b 44) H0 H1 locs1 → H.size ≤ H1.size → (∀ q : Nat, q < H.size → ¬ (adA b 44) q → H1[q]? = H[q]?) → W p l e R s m args below meth c H1 locs1 cells slots Q (F0 m (pc + 3) ls ((.int (nI (sumN (fun q => pcF w (op q) (2 * bsR w op mu ba en pr n lap q) L) n))) :: rest))) : W p l e R s m args below meth c H locs cells slots Q (F0 m pc ls (.int (nI L) :: .ref (b 0) :: rest)) :=
  kVX (As := [.int (nI L)]) (b := b 0) S (mX7_bestOf_y l hDis hG hVO h1L h2L hb) hlink tw_507 tw_508 tw_42 tw_509 (by show _ ∧ _ ∧ _ = some 1; decide +kernel) (by decide) hR blP (piU hI) (va_recv hI.2 hI.1 (ci := 7) (q0 := 0) rfl rfl) hS (fun _ h => h) hsz rfl hW hdg kk

set_option maxHeartbeats 4000000 in
set_option maxRecDepth 100000 in
theorem mX7_layBest_y (l : Launch) {D : va_G} {K : Nat → ClassId} {b : Nat → Nat} {w n lap : Nat} {op mu ba la en : Nat → Nat} {pr : Nat → Option Nat} {fr : Bool} {co : Nat → Nat → Nat} {cw cj : Nat → Int64} {cl : Nat} {rv : Int64} {rc : Nat} {pj : Nat → Nat → Nat} {pw ch : Nat → Nat} {pl lc : Nat} {tl : Nat → Nat} (hDis : Dis b 44) (hG : GOK w n lap op mu ba la en pr) (hVO : VOK w n op mu ba en pr fr co cl rv rc pj pw ch pl lc tl) (hb : bsS w op mu ba en pr n lap ≠ 1000000000) : Met l yX7_layBest (TWd yX7_layBest cX7_layBest 2 (some .int)) (rmk 6) (va_Pc [.ref (b 0)] (fun U => PI D K (cW K b w n lap op mu ba la en pr fr co cw cj cl rv rc pj pw ch pl lc tl) U U.heap)) (QX D K (fun u : CSc => some (.int (nI (bsS w op mu ba en pr n lap)))) (fun u => (cW K b w n lap op mu ba (lyF la (fun q => 2 * bsR w op mu ba en pr n lap q) n) en pr u.1 u.2.1 u.2.2.1 u.2.2.2.1 u.2.2.2.2.1 u.2.2.2.2.2.1 u.2.2.2.2.2.2.1 u.2.2.2.2.2.2.2.1 u.2.2.2.2.2.2.2.2.1 u.2.2.2.2.2.2.2.2.2.1 u.2.2.2.2.2.2.2.2.2.2.1 u.2.2.2.2.2.2.2.2.2.2.2.1 u.2.2.2.2.2.2.2.2.2.2.2.2)) (fun u => VOKu w n op mu ba en pr u) (adA b 44)) 0 0 (adA b 44) := by
  refine mt_of (by decide +kernel) (Nat.le_of_ble_eq_true rfl) ?_
  intro p e s m below meth c S hr hlk hI ls hl
  have S : CallFix p m c cX7_layBest 2 s ([.ref (b 0)] : List Value).toArray lw_tb RX7 := S
  have hl : lv_has ls 2 [(0, .ref (b 0))] := hl
  have hS : va_S (adA b 44) s.heap s.heap [] := va_S.rf
  obtain ⟨gw1, gw2, gn, gl1, gl2, gop, gmu, gba, gla, gen, gpr, gop2, gmu2, gba2, gla2, gme, gbe, gle, gee⟩ := id hG
  obtain ⟨v1, v2, v3, v4, v5, v6, v7, v8, v9, v10, v11⟩ := id hVO
  refine lv_aload_n S.1 S.2.1 dX7_layBest_0 rfl (lv_at hl 0 rfl) ?_
  refine g7 S hI 0 rfl 3 (by decide) tw_239 rfl dX7_layBest_1 ?_
  refine lv_aload_n S.1 S.2.1 dX7_layBest_4 rfl (lv_at hl 0 rfl) ?_
  refine g7 S hI 0 rfl 0 (by decide) tw_236 rfl dX7_layBest_5 ?_
  refine g6 S hI 1 rfl 5 (by decide) tw_134 rfl dX7_layBest_8 ?_
  refine kX3_renew S hI hS hDis hG (by omega) (by omega) v1 v2 v5 v6 v7 v8 v10 tw_466 (rok (by decide)) hl.1 (Nat.le_of_ble_eq_true rfl) dX7_layBest_11 (fun u1 H locs hu1 hI hS _ _ => ?_)
  obtain ⟨r1, r2, r3, r4, r5, r6, r7⟩ := hu1
  have r8 : u1.2.2.2.2.2 ≤ 1000000 := by rw [r6]; exact pwT_le _ _
  refine lv_aload_n S.1 S.2.1 dX7_layBest_14 rfl (lv_at hl 0 rfl) ?_
  refine g7 S hI 0 rfl 3 (by decide) tw_239 rfl dX7_layBest_15 ?_
  refine kX3_isNone S hI hG r8 tw_494 (rok (by decide)) hl.1 (Nat.le_of_ble_eq_true rfl) dX7_layBest_18 ?_
  refine ly_ifeq (tgt := 27) S bI_e1 bI_e2 dX7_layBest_21 (by decide) (fun h2 => ?_) (fun h2 => ?_)
  · skip
    rw [← lyF_0 (la := la) (f := fun q => 2 * bsR w op mu ba en pr n lap q)] at hI
    refine lv_iconst (v := nI 0) S.1 S.2.1 dX7_layBest_27 (by decide) ?_
    refine lv_istore_n (lv' := [(1, .int (nI 0)), (0, .ref (b 0))]) S.1 S.2.1 dX7_layBest_28 rfl hl (by decide) rfl (fun ls hl => ?_)
    have L29 : ∀ (f29 : Nat) (k : Nat) (H : Heap) (locs : List Loc), (k ≤ n) → (PI D K (cW K b w n lap op mu ba (lyF la (fun q => 2 * bsR w op mu ba en pr n lap q) k) en pr u1.1 u1.2.1 cw cj cl rv rc u1.2.2.1 u1.2.2.2.1 u1.2.2.2.2.1 lap u1.2.2.2.2.2 tl) s H) → (va_S (adA b 44) s.heap H locs) → n - k < f29 → ∀ (ls : Array Slot), lv_has ls 2 [(0, .ref (b 0)), (1, .int (nI k))] → W p l e (rmk 6) s m ([.ref (b 0)] : List Value).toArray below meth c H locs 0 0 (MQ below (QX D K (fun u : CSc => some (.int (nI (bsS w op mu ba en pr n lap)))) (fun u => (cW K b w n lap op mu ba (lyF la (fun q => 2 * bsR w op mu ba en pr n lap q) n) en pr u.1 u.2.1 u.2.2.1 u.2.2.2.1 u.2.2.2.2.1 u.2.2.2.2.2.1 u.2.2.2.2.2.2.1 u.2.2.2.2.2.2.2.1 u.2.2.2.2.2.2.2.2.1 u.2.2.2.2.2.2.2.2.2.1 u.2.2.2.2.2.2.2.2.2.2.1 u.2.2.2.2.2.2.2.2.2.2.2.1 u.2.2.2.2.2.2.2.2.2.2.2.2)) (fun u => VOKu w n op mu ba en pr u) (adA b 44)) ([.ref (b 0)] : List Value).toArray s 0 0 (adA b 44)) (F0 m 29 ls []) := by
      intro f29
      induction f29 with
      | zero =>
        intro k H locs i1 hI hS hm
        exact absurd hm (Nat.not_lt_zero _)
      | succ f29 ih29 =>
        intro k H locs i1 hI hS hm29 ls hl
        refine lv_iload_n S.1 S.2.1 dX7_layBest_29 rfl (lv_at hl 1 rfl) ?_
        refine lv_aload_n S.1 S.2.1 dX7_layBest_30 rfl (lv_at hl 0 rfl) ?_
        refine g7 S hI 0 rfl 0 (by decide) tw_236 rfl dX7_layBest_31 ?_
        refine g6 S hI 1 rfl 4 (by decide) tw_129 rfl dX7_layBest_34 ?_
        refine ly_cmge (tgt := 65) S (nI_le1 (by omega) (by omega)) (nI_le2 (by omega) (by omega)) dX7_layBest_37 (by decide) (fun h3 => ?_) (fun h3 => ?_)
        · skip
          have ek : k = n := by omega
          rw [ek] at hI
          refine lv_aload_n S.1 S.2.1 dX7_layBest_65 rfl (lv_at hl 0 rfl) ?_
          refine g7 S hI 0 rfl 3 (by decide) tw_239 rfl dX7_layBest_66 ?_
          refine g3 S hI 13 rfl 6 (by decide) tw_210 rfl dX7_layBest_69 ?_
          exact rw_i S hr hlk (u1.1, u1.2.1, cw, cj, cl, rv, rc, u1.2.2.1, u1.2.2.2.1, u1.2.2.2.2.1, lap, u1.2.2.2.2.2, tl) (by rw [be_l hG gl1 gl2 r6 hb]) ⟨r1, r2, v3, v4, gl2, r3, r5, r4, r8, fun _ => ⟨r6, r7⟩, v11⟩ hI hS dX7_layBest_72
        · skip
          refine lv_aload_n S.1 S.2.1 dX7_layBest_40 rfl (lv_at hl 0 rfl) ?_
          refine g7 S hI 0 rfl 0 (by decide) tw_236 rfl dX7_layBest_41 ?_
          refine lv_iload_n S.1 S.2.1 dX7_layBest_44 rfl (lv_at hl 1 rfl) ?_
          refine kX6_at_c S hI (by omega) (by omega) tw_276 (rok (by decide)) hl.1 (Nat.le_of_ble_eq_true rfl) dX7_layBest_45 ?_
          refine lv_aload_n S.1 S.2.1 dX7_layBest_48 rfl (lv_at hl 0 rfl) ?_
          refine g7 S hI 0 rfl 3 (by decide) tw_239 rfl dX7_layBest_49 ?_
          refine lv_iload_n S.1 S.2.1 dX7_layBest_52 rfl (lv_at hl 1 rfl) ?_
          refine kX3_jointsOf S hI (GOK_ly hG k (by omega) lap) (by omega) r5 tw_502 (rok (by decide)) hl.1 (Nat.le_of_ble_eq_true rfl) dX7_layBest_53 ?_
          refine ly_top (z := (nI (2 * bsR w op mu ba en pr n lap k))) (by rw [r7 k (by omega), M_ch hG gl1 gl2 hb k (by omega)]) ?_
          refine p2 (ws' := (cW K b w n lap op mu ba (va_up (lyF la (fun q => 2 * bsR w op mu ba en pr n lap q) k) k (2 * bsR w op mu ba en pr n lap k)) en pr u1.1 u1.2.1 cw cj cl rv rc u1.2.2.1 u1.2.2.2.1 u1.2.2.2.2.1 lap u1.2.2.2.2.2 tl)) S hI (cD hDis) hS (19 + k) (cw_cr (by omega)) 3 (by decide) tw_111 rfl rfl rfl rfl (Nat.le_of_ble_eq_true rfl) (cs_la (by omega)) dX7_layBest_56 (fun H locs hI hS => ?_)
          rw [lyF_s (f := fun q => 2 * bsR w op mu ba en pr n lap q)] at hI
          refine lv_iinc (v := nI (k + 1)) (lv' := [(1, .int (nI (k + 1))), (0, .ref (b 0))]) S.1 S.2.1 dX7_layBest_59 hl (k := 1) rfl (nJ_in _ _) (by decide) rfl (fun ls hl => ?_)
          refine lv_goto (tgt := 29) S.1 S.2.1 dX7_layBest_62 (by decide) ?_
          exact ih29 (k + 1) _ _ (by omega) hI hS (by omega) _ (lv_sub hl [1, 0] rfl)
    exact L29 _ 0 _ _ (by omega) hI hS (Nat.lt_succ_self _) _ (lv_sub hl [1, 0] rfl)
  · skip
    exact absurd (be_n1 hG gl1 gl2 r6 h2) hb
theorem kX7_layBest_y {p : Program} {l : Launch} {e : Env} {R : Room} {s : State} {m : MethodId} {args : Array Value} {below : List Frame} {meth : Method} {c : Code} {H H0 : Heap} {locs : List Loc} {cells slots : Nat} {Q : State → Prop} {cc : ByteArray} {nL index pc : Nat} {own : String} {ls : Array Slot} {rest : List Value} {D : va_G} {K : Nat → ClassId} {b : Nat → Nat} {w n lap : Nat} {op mu ba la en : Nat → Nat} {pr : Nat → Option Nat} {fr : Bool} {co : Nat → Nat → Nat} {cw cj : Nat → Int64} {cl : Nat} {rv : Int64} {rc : Nat} {pj : Nat → Nat → Nat} {pw ch : Nat → Nat} {pl lc : Nat} {tl : Nat → Nat} (S : CallFix p m c cc nL s args lw_tb own) (hI : PI D K (cW K b w n lap op mu ba la en pr fr co cw cj cl rv rc pj pw ch pl lc tl) s H) (hS : va_S (adA b 44) H0 H locs) (hDis : Dis b 44) (hG : GOK w n lap op mu ba la en pr) (hVO : VOK w n op mu ba en pr fr co cl rv rc pj pw ch pl lc tl) (hb : bsS w op mu ba en pr n lap ≠ 1000000000) (hlink : Cond.methodLink own index yX7_layBest ∈ lw_tb) (hR : RO 6 R cells slots) (hsz : ls.size = nL) (hW : (rest.map fun v => v.category).sum ≤ 8) (hdg : decode cc pc = .ok (.invokevirtual index, 3)) (kk : ∀ (u : CSc) (H1 : Heap) (locs1 : List Loc), (VOKu w n op mu ba en pr u) → PI D K (cW K b w n lap op mu ba (lyF la (fun q => 2 * bsR w op mu ba en pr n lap q) n) en pr u.1 u.2.1 u.2.2.1 u.2.2.2.1 u.2.2.2.2.1 u.2.2.2.2.2.1 u.2.2.2.2.2.2.1 u.2.2.2.2.2.2.2.1 u.2.2.2.2.2.2.2.2.1 u.2.2.2.2.2.2.2.2.2.1 u.2.2.2.2.2.2.2.2.2.2.1 u.2.2.2.2.2.2.2.2.2.2.2.1 u.2.2.2.2.2.2.2.2.2.2.2.2) s H1 → va_S (adA b 44) H0 H1 locs1 → H.size ≤ H1.size → (∀ q : Nat, q < H.size → ¬ (adA b 44) q → H1[q]? = H[q]?) → W p l e R s m args below meth c H1 locs1 cells slots Q (F0 m (pc + 3) ls ((.int (nI (bsS w op mu ba en pr n lap))) :: rest))) : W p l e R s m args below meth c H locs cells slots Q (F0 m pc ls (.ref (b 0) :: rest)) :=
  kVX (As := []) (b := b 0) S (mX7_layBest_y l hDis hG hVO hb) hlink tw_527 tw_528 tw_42 tw_529 (by show _ ∧ _ ∧ _ = some 0; decide +kernel) (by decide) hR blP (piU hI) (va_recv hI.2 hI.1 (ci := 7) (q0 := 0) rfl rfl) hS (fun _ h => h) hsz rfl hW hdg kk

set_option maxHeartbeats 4000000 in
set_option maxRecDepth 100000 in
theorem mX7_lay_a (l : Launch) {D : va_G} {K : Nat → ClassId} {b : Nat → Nat} {w n lap : Nat} {op mu ba la en : Nat → Nat} {pr : Nat → Option Nat} {fr : Bool} {co : Nat → Nat → Nat} {cw cj : Nat → Int64} {cl : Nat} {rv : Int64} {rc : Nat} {pj : Nat → Nat → Nat} {pw ch : Nat → Nat} {pl lc : Nat} {tl : Nat → Nat} {v : Int32} {z : Int32} (hG : GOK w n lap op mu ba la en pr) (hv : wiI v 0 (nI n - 1) = false) : Met l yX7_lay (TWd yX7_lay cX7_lay 5 (some .int)) (rmk 2) (va_Pc [.ref (b 0), .int v, .int z] (fun U => PI D K (cW K b w n lap op mu ba la en pr fr co cw cj cl rv rc pj pw ch pl lc tl) U U.heap)) (QcRead ((-1))) 0 0 (fun _ => False) := by
  refine mt_of (by decide +kernel) (Nat.le_of_ble_eq_true rfl) ?_
  intro p e s m below meth c S hr hlk hI ls hl
  have S : CallFix p m c cX7_lay 5 s ([.ref (b 0), .int v, .int z] : List Value).toArray lw_tb RX7 := S
  have hl : lv_has ls 5 [(0, .ref (b 0)), (1, .int v), (2, .int z)] := hl
  obtain ⟨gw1, gw2, gn, gl1, gl2, gop, gmu, gba, gla, gen, gpr, gop2, gmu2, gba2, gla2, gme, gbe, gle, gee⟩ := id hG
  refine lv_aload_n S.1 S.2.1 dX7_lay_0 rfl (lv_at hl 0 rfl) ?_
  refine g7 S hI 0 rfl 0 (by decide) tw_236 rfl dX7_lay_1 ?_
  refine lv_iload_n S.1 S.2.1 dX7_lay_4 rfl (lv_at hl 1 rfl) ?_
  refine kX6_has S hI hG tw_292 (rok (by decide)) hl.1 (Nat.le_of_ble_eq_true rfl) dX7_lay_5 ?_
  refine ly_ifne (tgt := 13) S bI_e2 bI_e1 dX7_lay_8 (by decide) (fun h1 => ?_) (fun h1 => ?_)
  · skip
    exact absurd h1 (by rw [hv]; decide)
  · skip
    refine lv_iconst (v := (-1)) S.1 S.2.1 dX7_lay_11 (by decide) ?_
    exact rt_i S hr hlk rfl dX7_lay_12
theorem kX7_lay_a {p : Program} {l : Launch} {e : Env} {R : Room} {s : State} {m : MethodId} {args : Array Value} {below : List Frame} {meth : Method} {c : Code} {H : Heap} {locs : List Loc} {cells slots : Nat} {Q : State → Prop} {cc : ByteArray} {nL index pc : Nat} {own : String} {ls : Array Slot} {rest : List Value} {D : va_G} {K : Nat → ClassId} {b : Nat → Nat} {w n lap : Nat} {op mu ba la en : Nat → Nat} {pr : Nat → Option Nat} {fr : Bool} {co : Nat → Nat → Nat} {cw cj : Nat → Int64} {cl : Nat} {rv : Int64} {rc : Nat} {pj : Nat → Nat → Nat} {pw ch : Nat → Nat} {pl lc : Nat} {tl : Nat → Nat} {v : Int32} {z : Int32} (S : CallFix p m c cc nL s args lw_tb own) (hI : PI D K (cW K b w n lap op mu ba la en pr fr co cw cj cl rv rc pj pw ch pl lc tl) s H) (hG : GOK w n lap op mu ba la en pr) (hv : wiI v 0 (nI n - 1) = false) (hlink : Cond.methodLink own index yX7_lay ∈ lw_tb) (hR : RO 2 R cells slots) (hsz : ls.size = nL) (hW : (rest.map fun v => v.category).sum ≤ 8) (hdg : decode cc pc = .ok (.invokevirtual index, 3)) (kk : W p l e R s m args below meth c H locs cells slots Q (F0 m (pc + 3) ls (.int ((-1)) :: rest))) : W p l e R s m args below meth c H locs cells slots Q (F0 m pc ls (.int z :: .int v :: .ref (b 0) :: rest)) :=
  kV (As := [.int v, .int z]) (b := b 0) S (mX7_lay_a l hG hv) hlink tw_523 tw_524 tw_42 tw_525 (by show _ ∧ _ ∧ _ = some 2; decide +kernel) (by decide) hR blP (piU hI) (va_recv hI.2 hI.1 (ci := 7) (q0 := 0) rfl rfl) hsz rfl hW hdg kk

set_option maxHeartbeats 4000000 in
set_option maxRecDepth 100000 in
theorem mX7_lay_b (l : Launch) {D : va_G} {K : Nat → ClassId} {b : Nat → Nat} {w n lap : Nat} {op mu ba la en : Nat → Nat} {pr : Nat → Option Nat} {fr : Bool} {co : Nat → Nat → Nat} {cw cj : Nat → Int64} {cl : Nat} {rv : Int64} {rc : Nat} {pj : Nat → Nat → Nat} {pw ch : Nat → Nat} {pl lc : Nat} {tl : Nat → Nat} {ci : Nat} {z : Int32} (hG : GOK w n lap op mu ba la en pr) (hc : ci < n) (hz : plI w z = false) : Met l yX7_lay (TWd yX7_lay cX7_lay 5 (some .int)) (rmk 2) (va_Pc [.ref (b 0), .int (nI ci), .int z] (fun U => PI D K (cW K b w n lap op mu ba la en pr fr co cw cj cl rv rc pj pw ch pl lc tl) U U.heap)) (QcRead ((-2))) 0 0 (fun _ => False) := by
  refine mt_of (by decide +kernel) (Nat.le_of_ble_eq_true rfl) ?_
  intro p e s m below meth c S hr hlk hI ls hl
  have S : CallFix p m c cX7_lay 5 s ([.ref (b 0), .int (nI ci), .int z] : List Value).toArray lw_tb RX7 := S
  have hl : lv_has ls 5 [(0, .ref (b 0)), (1, .int (nI ci)), (2, .int z)] := hl
  obtain ⟨gw1, gw2, gn, gl1, gl2, gop, gmu, gba, gla, gen, gpr, gop2, gmu2, gba2, gla2, gme, gbe, gle, gee⟩ := id hG
  refine lv_aload_n S.1 S.2.1 dX7_lay_0 rfl (lv_at hl 0 rfl) ?_
  refine g7 S hI 0 rfl 0 (by decide) tw_236 rfl dX7_lay_1 ?_
  refine lv_iload_n S.1 S.2.1 dX7_lay_4 rfl (lv_at hl 1 rfl) ?_
  refine kX6_has S hI hG tw_292 (rok (by decide)) hl.1 (Nat.le_of_ble_eq_true rfl) dX7_lay_5 ?_
  refine ly_ifne (tgt := 13) S bI_e2 bI_e1 dX7_lay_8 (by decide) (fun h1 => ?_) (fun h1 => ?_)
  · skip
    refine lv_iload_n S.1 S.2.1 dX7_lay_13 rfl (lv_at hl 2 rfl) ?_
    refine lv_aload_n S.1 S.2.1 dX7_lay_14 rfl (lv_at hl 0 rfl) ?_
    refine g7 S hI 0 rfl 0 (by decide) tw_236 rfl dX7_lay_15 ?_
    refine kX6_places S hI hG tw_304 (rok (by decide)) hl.1 (Nat.le_of_ble_eq_true rfl) dX7_lay_18 ?_
    refine lv_iconst (v := (-1)) S.1 S.2.1 dX7_lay_21 (by decide) ?_
    refine lv_ixor S.1 S.2.1 dX7_lay_22 ?_
    refine lv_iand S.1 S.2.1 dX7_lay_23 ?_
    refine ly_ifeq (tgt := 30) S (fun q => q) (fun q => q) dX7_lay_24 (by decide) (fun h2 => ?_) (fun h2 => ?_)
    · skip
      exact absurd h2 (mk_places gw1 gw2 hz)
    · skip
      refine lv_bipush (v := (-2)) S.1 S.2.1 dX7_lay_27 (by decide) ?_
      exact rt_i S hr hlk rfl dX7_lay_29
  · skip
    exact absurd h1 (by rw [wiC (by omega) (by omega)]; decide)
theorem kX7_lay_b {p : Program} {l : Launch} {e : Env} {R : Room} {s : State} {m : MethodId} {args : Array Value} {below : List Frame} {meth : Method} {c : Code} {H : Heap} {locs : List Loc} {cells slots : Nat} {Q : State → Prop} {cc : ByteArray} {nL index pc : Nat} {own : String} {ls : Array Slot} {rest : List Value} {D : va_G} {K : Nat → ClassId} {b : Nat → Nat} {w n lap : Nat} {op mu ba la en : Nat → Nat} {pr : Nat → Option Nat} {fr : Bool} {co : Nat → Nat → Nat} {cw cj : Nat → Int64} {cl : Nat} {rv : Int64} {rc : Nat} {pj : Nat → Nat → Nat} {pw ch : Nat → Nat} {pl lc : Nat} {tl : Nat → Nat} {ci : Nat} {z : Int32} (S : CallFix p m c cc nL s args lw_tb own) (hI : PI D K (cW K b w n lap op mu ba la en pr fr co cw cj cl rv rc pj pw ch pl lc tl) s H) (hG : GOK w n lap op mu ba la en pr) (hc : ci < n) (hz : plI w z = false) (hlink : Cond.methodLink own index yX7_lay ∈ lw_tb) (hR : RO 2 R cells slots) (hsz : ls.size = nL) (hW : (rest.map fun v => v.category).sum ≤ 8) (hdg : decode cc pc = .ok (.invokevirtual index, 3)) (kk : W p l e R s m args below meth c H locs cells slots Q (F0 m (pc + 3) ls (.int ((-2)) :: rest))) : W p l e R s m args below meth c H locs cells slots Q (F0 m pc ls (.int z :: .int (nI ci) :: .ref (b 0) :: rest)) :=
  kV (As := [.int (nI ci), .int z]) (b := b 0) S (mX7_lay_b l hG hc hz) hlink tw_523 tw_524 tw_42 tw_525 (by show _ ∧ _ ∧ _ = some 2; decide +kernel) (by decide) hR blP (piU hI) (va_recv hI.2 hI.1 (ci := 7) (q0 := 0) rfl rfl) hsz rfl hW hdg kk

set_option maxHeartbeats 4000000 in
set_option maxRecDepth 100000 in
theorem mX7_lay_c (l : Launch) {D : va_G} {K : Nat → ClassId} {b : Nat → Nat} {w n lap : Nat} {op mu ba la en : Nat → Nat} {pr : Nat → Option Nat} {fr : Bool} {co : Nat → Nat → Nat} {cw cj : Nat → Int64} {cl : Nat} {rv : Int64} {rc : Nat} {pj : Nat → Nat → Nat} {pw ch : Nat → Nat} {pl lc : Nat} {tl : Nat → Nat} {ci : Nat} {k : Nat} (hDis : Dis b 44) (hG : GOK w n lap op mu ba la en pr) (hVO : VOK w n op mu ba en pr fr co cl rv rc pj pw ch pl lc tl) (hc : ci < n) (hk : k < 2 ^ w) (hk2 : k % 2 = 0) : Met l yX7_lay (TWd yX7_lay cX7_lay 5 (some .int)) (rmk 2) (va_Pc [.ref (b 0), .int (nI ci), .int (nI k)] (fun U => PI D K (cW K b w n lap op mu ba la en pr fr co cw cj cl rv rc pj pw ch pl lc tl) U U.heap)) (QX D K (fun u : CSc => some (.int (nI (la ci)))) (fun u => (cW K b w n lap op mu ba (va_up la ci k) en pr u.1 u.2.1 u.2.2.1 u.2.2.2.1 u.2.2.2.2.1 u.2.2.2.2.2.1 u.2.2.2.2.2.2.1 u.2.2.2.2.2.2.2.1 u.2.2.2.2.2.2.2.2.1 u.2.2.2.2.2.2.2.2.2.1 u.2.2.2.2.2.2.2.2.2.2.1 u.2.2.2.2.2.2.2.2.2.2.2.1 u.2.2.2.2.2.2.2.2.2.2.2.2)) (fun u => VOKu w n op mu ba en pr u) (adA b 44)) 0 0 (adA b 44) := by
  refine mt_of (by decide +kernel) (Nat.le_of_ble_eq_true rfl) ?_
  intro p e s m below meth c S hr hlk hI ls hl
  have S : CallFix p m c cX7_lay 5 s ([.ref (b 0), .int (nI ci), .int (nI k)] : List Value).toArray lw_tb RX7 := S
  have hl : lv_has ls 5 [(0, .ref (b 0)), (1, .int (nI ci)), (2, .int (nI k))] := hl
  have hS : va_S (adA b 44) s.heap s.heap [] := va_S.rf
  obtain ⟨gw1, gw2, gn, gl1, gl2, gop, gmu, gba, gla, gen, gpr, gop2, gmu2, gba2, gla2, gme, gbe, gle, gee⟩ := id hG
  obtain ⟨v1, v2, v3, v4, v5, v6, v7, v8, v9, v10, v11⟩ := id hVO
  have sw : 1 <<< w = 2 ^ w := Nat.one_shiftLeft w
  have pwx : 2 ^ w ≤ 2 ^ 10 := Nat.pow_le_pow_right (by decide) gw2
  have pw3 : 2 ^ 2 ≤ 2 ^ w := Nat.pow_le_pow_right (by decide) gw1
  have pw0 : 2 ^ w ≤ 1024   := pwx
  have pw4 : 4 ≤ 2 ^ w := pw3
  refine lv_aload_n S.1 S.2.1 dX7_lay_0 rfl (lv_at hl 0 rfl) ?_
  refine g7 S hI 0 rfl 0 (by decide) tw_236 rfl dX7_lay_1 ?_
  refine lv_iload_n S.1 S.2.1 dX7_lay_4 rfl (lv_at hl 1 rfl) ?_
  refine kX6_has S hI hG tw_292 (rok (by decide)) hl.1 (Nat.le_of_ble_eq_true rfl) dX7_lay_5 ?_
  refine ly_ifne (tgt := 13) S bI_e2 bI_e1 dX7_lay_8 (by decide) (fun h1 => ?_) (fun h1 => ?_)
  · skip
    refine lv_iload_n S.1 S.2.1 dX7_lay_13 rfl (lv_at hl 2 rfl) ?_
    refine lv_aload_n S.1 S.2.1 dX7_lay_14 rfl (lv_at hl 0 rfl) ?_
    refine g7 S hI 0 rfl 0 (by decide) tw_236 rfl dX7_lay_15 ?_
    refine kX6_places S hI hG tw_304 (rok (by decide)) hl.1 (Nat.le_of_ble_eq_true rfl) dX7_lay_18 ?_
    refine lv_iconst (v := (-1)) S.1 S.2.1 dX7_lay_21 (by decide) ?_
    refine lv_ixor S.1 S.2.1 dX7_lay_22 ?_
    refine lv_iand S.1 S.2.1 dX7_lay_23 ?_
    refine ly_top (z := (nI (ndf k (2 ^ w - 2)))) (nI_andn (by omega) (by omega)) ?_
    refine ly_ifeq (tgt := 30) S (nI_z1 (ndf_lt (by omega))) (nI_z2 (ndf_lt (by omega))) dX7_lay_24 (by decide) (fun h2 => ?_) (fun h2 => ?_)
    · skip
      refine lv_aload_n S.1 S.2.1 dX7_lay_30 rfl (lv_at hl 0 rfl) ?_
      refine g7 S hI 0 rfl 0 (by decide) tw_236 rfl dX7_lay_31 ?_
      refine lv_iload_n S.1 S.2.1 dX7_lay_34 rfl (lv_at hl 1 rfl) ?_
      refine kX6_at_c S hI (by omega) (by omega) tw_276 (rok (by decide)) hl.1 (Nat.le_of_ble_eq_true rfl) dX7_lay_35 ?_
      refine lv_astore_n (lv' := [(3, .ref (b (19 + ci))), (0, .ref (b 0)), (1, .int (nI ci)), (2, .int (nI k))]) S.1 S.2.1 dX7_lay_38 rfl hl (by decide) rfl (fun ls hl => ?_)
      refine lv_aload_n S.1 S.2.1 dX7_lay_39 rfl (lv_at hl 0 rfl) ?_
      refine g2 S hI (19 + ci) (cw_cr (by omega)) 3 (by decide) tw_111 rfl dX7_lay_40 ?_
      refine ly_top (z := (nI (la ci))) (by rw [gzl (f := la) (by omega)]) ?_
      refine lv_istore (lv' := [(4, .int (nI (la ci))), (3, .ref (b (19 + ci))), (0, .ref (b 0)), (1, .int (nI ci)), (2, .int (nI k))]) S.1 S.2.1 dX7_lay_43 hl (by decide) rfl (fun ls hl => ?_)
      refine lv_aload_n S.1 S.2.1 dX7_lay_45 rfl (lv_at hl 1 rfl) ?_
      refine lv_iload_n S.1 S.2.1 dX7_lay_46 rfl (lv_at hl 4 rfl) ?_
      refine p2 (ws' := (cW K b w n lap op mu ba (va_up la ci k) en pr fr co cw cj cl rv rc pj pw ch pl lc tl)) S hI (cD hDis) hS (19 + ci) (cw_cr (by omega)) 3 (by decide) tw_111 rfl rfl rfl rfl (Nat.le_of_ble_eq_true rfl) (cs_la (by omega)) dX7_lay_47 (fun H locs hI hS => ?_)
      refine lv_iload S.1 S.2.1 dX7_lay_50 (lv_at hl 0 rfl) ?_
      exact rw_i S hr hlk (fr, co, cw, cj, cl, rv, rc, pj, pw, ch, pl, lc, tl) rfl hVO hI hS dX7_lay_52
    · skip
      exact absurd (ndf_places (by omega) hk hk2) h2
  · skip
    exact absurd h1 (by rw [wiC (by omega) (by omega)]; decide)
theorem kX7_lay_c {p : Program} {l : Launch} {e : Env} {R : Room} {s : State} {m : MethodId} {args : Array Value} {below : List Frame} {meth : Method} {c : Code} {H H0 : Heap} {locs : List Loc} {cells slots : Nat} {Q : State → Prop} {cc : ByteArray} {nL index pc : Nat} {own : String} {ls : Array Slot} {rest : List Value} {D : va_G} {K : Nat → ClassId} {b : Nat → Nat} {w n lap : Nat} {op mu ba la en : Nat → Nat} {pr : Nat → Option Nat} {fr : Bool} {co : Nat → Nat → Nat} {cw cj : Nat → Int64} {cl : Nat} {rv : Int64} {rc : Nat} {pj : Nat → Nat → Nat} {pw ch : Nat → Nat} {pl lc : Nat} {tl : Nat → Nat} {ci : Nat} {k : Nat} (S : CallFix p m c cc nL s args lw_tb own) (hI : PI D K (cW K b w n lap op mu ba la en pr fr co cw cj cl rv rc pj pw ch pl lc tl) s H) (hS : va_S (adA b 44) H0 H locs) (hDis : Dis b 44) (hG : GOK w n lap op mu ba la en pr) (hVO : VOK w n op mu ba en pr fr co cl rv rc pj pw ch pl lc tl) (hc : ci < n) (hk : k < 2 ^ w) (hk2 : k % 2 = 0) (hlink : Cond.methodLink own index yX7_lay ∈ lw_tb) (hR : RO 2 R cells slots) (hsz : ls.size = nL) (hW : (rest.map fun v => v.category).sum ≤ 8) (hdg : decode cc pc = .ok (.invokevirtual index, 3)) (kk : ∀ (u : CSc) (H1 : Heap) (locs1 : List Loc), (VOKu w n op mu ba en pr u) → PI D K (cW K b w n lap op mu ba (va_up la ci k) en pr u.1 u.2.1 u.2.2.1 u.2.2.2.1 u.2.2.2.2.1 u.2.2.2.2.2.1 u.2.2.2.2.2.2.1 u.2.2.2.2.2.2.2.1 u.2.2.2.2.2.2.2.2.1 u.2.2.2.2.2.2.2.2.2.1 u.2.2.2.2.2.2.2.2.2.2.1 u.2.2.2.2.2.2.2.2.2.2.2.1 u.2.2.2.2.2.2.2.2.2.2.2.2) s H1 → va_S (adA b 44) H0 H1 locs1 → H.size ≤ H1.size → (∀ q : Nat, q < H.size → ¬ (adA b 44) q → H1[q]? = H[q]?) → W p l e R s m args below meth c H1 locs1 cells slots Q (F0 m (pc + 3) ls ((.int (nI (la ci))) :: rest))) : W p l e R s m args below meth c H locs cells slots Q (F0 m pc ls (.int (nI k) :: .int (nI ci) :: .ref (b 0) :: rest)) :=
  kVX (As := [.int (nI ci), .int (nI k)]) (b := b 0) S (mX7_lay_c l hDis hG hVO hc hk hk2) hlink tw_523 tw_524 tw_42 tw_525 (by show _ ∧ _ ∧ _ = some 2; decide +kernel) (by decide) hR blP (piU hI) (va_recv hI.2 hI.1 (ci := 7) (q0 := 0) rfl rfl) hS (fun _ h => h) hsz rfl hW hdg kk

set_option maxHeartbeats 4000000 in
set_option maxRecDepth 100000 in
theorem mX7_wrong_a (l : Launch) {D : va_G} {K : Nat → ClassId} {b : Nat → Nat} {w n lap : Nat} {op mu ba la en : Nat → Nat} {pr : Nat → Option Nat} {fr : Bool} {co : Nat → Nat → Nat} {cw cj : Nat → Int64} {cl : Nat} {rv : Int64} {rc : Nat} {pj : Nat → Nat → Nat} {pw ch : Nat → Nat} {pl lc : Nat} {tl : Nat → Nat} {v : Int32} (hG : GOK w n lap op mu ba la en pr) (hv : wiI v (nI 0) (nI 1) = false) : Met l yX7_wrong (TWd yX7_wrong cX7_wrong 4 (some .int)) (rmk 4) (va_Pc [.ref (b 0), .int v] (fun U => PI D K (cW K b w n lap op mu ba la en pr fr co cw cj cl rv rc pj pw ch pl lc tl) U U.heap)) (QcRead ((-2))) 0 0 (fun _ => False) := by
  refine mt_of (by decide +kernel) (Nat.le_of_ble_eq_true rfl) ?_
  intro p e s m below meth c S hr hlk hI ls hl
  have S : CallFix p m c cX7_wrong 4 s ([.ref (b 0), .int v] : List Value).toArray lw_tb RX7 := S
  have hl : lv_has ls 4 [(0, .ref (b 0)), (1, .int v)] := hl
  obtain ⟨gw1, gw2, gn, gl1, gl2, gop, gmu, gba, gla, gen, gpr, gop2, gmu2, gba2, gla2, gme, gbe, gle, gee⟩ := id hG
  refine lv_iload_n S.1 S.2.1 dX7_wrong_0 rfl (lv_at hl 1 rfl) ?_
  refine ly_iflt (tgt := 9) S (fun q => q) (fun q => q) dX7_wrong_1 (by decide) (fun h1 => ?_) (fun h1 => ?_)
  · skip
    refine lv_bipush (v := (-2)) S.1 S.2.1 dX7_wrong_9 (by decide) ?_
    exact rt_i S hr hlk rfl dX7_wrong_11
  · skip
    refine lv_iload_n S.1 S.2.1 dX7_wrong_4 rfl (lv_at hl 1 rfl) ?_
    refine lv_iconst (v := nI 1) S.1 S.2.1 dX7_wrong_5 (by decide) ?_
    refine ly_cmle (tgt := 12) S (fun q => q) (fun q => q) dX7_wrong_6 (by decide) (fun h2 => ?_) (fun h2 => ?_)
    · skip
      exact absurd (wiI_t (z0 := nI 0) h1 (Int32.not_lt.mpr h2)) (by rw [hv]; decide)
    · skip
      refine lv_bipush (v := (-2)) S.1 S.2.1 dX7_wrong_9 (by decide) ?_
      exact rt_i S hr hlk rfl dX7_wrong_11
theorem kX7_wrong_a {p : Program} {l : Launch} {e : Env} {R : Room} {s : State} {m : MethodId} {args : Array Value} {below : List Frame} {meth : Method} {c : Code} {H : Heap} {locs : List Loc} {cells slots : Nat} {Q : State → Prop} {cc : ByteArray} {nL index pc : Nat} {own : String} {ls : Array Slot} {rest : List Value} {D : va_G} {K : Nat → ClassId} {b : Nat → Nat} {w n lap : Nat} {op mu ba la en : Nat → Nat} {pr : Nat → Option Nat} {fr : Bool} {co : Nat → Nat → Nat} {cw cj : Nat → Int64} {cl : Nat} {rv : Int64} {rc : Nat} {pj : Nat → Nat → Nat} {pw ch : Nat → Nat} {pl lc : Nat} {tl : Nat → Nat} {v : Int32} (S : CallFix p m c cc nL s args lw_tb own) (hI : PI D K (cW K b w n lap op mu ba la en pr fr co cw cj cl rv rc pj pw ch pl lc tl) s H) (hG : GOK w n lap op mu ba la en pr) (hv : wiI v (nI 0) (nI 1) = false) (hlink : Cond.methodLink own index yX7_wrong ∈ lw_tb) (hR : RO 4 R cells slots) (hsz : ls.size = nL) (hW : (rest.map fun v => v.category).sum ≤ 8) (hdg : decode cc pc = .ok (.invokevirtual index, 3)) (kk : W p l e R s m args below meth c H locs cells slots Q (F0 m (pc + 3) ls (.int ((-2)) :: rest))) : W p l e R s m args below meth c H locs cells slots Q (F0 m pc ls (.int v :: .ref (b 0) :: rest)) :=
  kV (As := [.int v]) (b := b 0) S (mX7_wrong_a l hG hv) hlink tw_531 tw_532 tw_42 tw_533 (by show _ ∧ _ ∧ _ = some 1; decide +kernel) (by decide) hR blP (piU hI) (va_recv hI.2 hI.1 (ci := 7) (q0 := 0) rfl rfl) hsz rfl hW hdg kk

set_option maxHeartbeats 4000000 in
set_option maxRecDepth 100000 in
theorem mX7_wrong_0 (l : Launch) {D : va_G} {K : Nat → ClassId} {b : Nat → Nat} {w n lap : Nat} {op mu ba la en : Nat → Nat} {pr : Nat → Option Nat} {fr : Bool} {co : Nat → Nat → Nat} {cw cj : Nat → Int64} {cl : Nat} {rv : Int64} {rc : Nat} {pj : Nat → Nat → Nat} {pw ch : Nat → Nat} {pl lc : Nat} {tl : Nat → Nat} (hG : GOK w n lap op mu ba la en pr) : Met l yX7_wrong (TWd yX7_wrong cX7_wrong 4 (some .int)) (rmk 4) (va_Pc [.ref (b 0), .int (nI 0)] (fun U => PI D K (cW K b w n lap op mu ba la en pr fr co cw cj cl rv rc pj pw ch pl lc tl) U U.heap)) (QcRead (wrG (lrF pr w lap op mu ba la en) (fun q => q) n 0)) 0 0 (fun _ => False) := by
  refine mt_of (by decide +kernel) (Nat.le_of_ble_eq_true rfl) ?_
  intro p e s m below meth c S hr hlk hI ls hl
  have S : CallFix p m c cX7_wrong 4 s ([.ref (b 0), .int (nI 0)] : List Value).toArray lw_tb RX7 := S
  have hl : lv_has ls 4 [(0, .ref (b 0)), (1, .int (nI 0))] := hl
  obtain ⟨gw1, gw2, gn, gl1, gl2, gop, gmu, gba, gla, gen, gpr, gop2, gmu2, gba2, gla2, gme, gbe, gle, gee⟩ := id hG
  refine lv_iload_n S.1 S.2.1 dX7_wrong_0 rfl (lv_at hl 1 rfl) ?_
  refine ly_iflt (tgt := 9) S (fun q => (nI_n1 (by omega) q : False)) (fun q => nI_n2 q) dX7_wrong_1 (by decide) (fun h1 => ?_) (fun h1 => ?_)
  · skip
    exact h1.elim
  · skip
    refine lv_iload_n S.1 S.2.1 dX7_wrong_4 rfl (lv_at hl 1 rfl) ?_
    refine lv_iconst (v := nI 1) S.1 S.2.1 dX7_wrong_5 (by decide) ?_
    refine ly_cmle (tgt := 12) S (nI_le1 (by omega) (by omega)) (nI_le2 (by omega) (by omega)) dX7_wrong_6 (by decide) (fun h2 => ?_) (fun h2 => ?_)
    · skip
      refine lv_iconst (v := nI 0) S.1 S.2.1 dX7_wrong_12 (by decide) ?_
      refine lv_istore_n (lv' := [(2, .int (nI 0)), (0, .ref (b 0)), (1, .int (nI 0))]) S.1 S.2.1 dX7_wrong_13 rfl hl (by decide) rfl (fun ls hl => ?_)
      have L14 : ∀ (f14 : Nat) (k : Nat), (k ≤ n) → (wrG (lrF pr w lap op mu ba la en) (fun q => q) (n - k) k = wrG (lrF pr w lap op mu ba la en) (fun q => q) n 0) → n - k < f14 → ∀ (ls : Array Slot), lv_has ls 4 [(0, .ref (b 0)), (1, .int (nI 0)), (2, .int (nI k))] → W p l e (rmk 4) s m ([.ref (b 0), .int (nI 0)] : List Value).toArray below meth c s.heap [] 0 0 (MQ below (QcRead (wrG (lrF pr w lap op mu ba la en) (fun q => q) n 0)) ([.ref (b 0), .int (nI 0)] : List Value).toArray s 0 0 (fun _ => False)) (F0 m 14 ls []) := by
        intro f14
        induction f14 with
        | zero =>
          intro k i2 i3 hm
          exact absurd hm (Nat.not_lt_zero _)
        | succ f14 ih14 =>
          intro k i2 i3 hm14 ls hl
          refine lv_iload_n S.1 S.2.1 dX7_wrong_14 rfl (lv_at hl 2 rfl) ?_
          refine lv_aload_n S.1 S.2.1 dX7_wrong_15 rfl (lv_at hl 0 rfl) ?_
          refine g7 S hI 0 rfl 0 (by decide) tw_236 rfl dX7_wrong_16 ?_
          refine g6 S hI 1 rfl 4 (by decide) tw_129 rfl dX7_wrong_19 ?_
          refine ly_cmge (tgt := 54) S (nI_le1 (by omega) (by omega)) (nI_le2 (by omega) (by omega)) dX7_wrong_22 (by decide) (fun h3 => ?_) (fun h3 => ?_)
          · skip
            refine lv_bipush (v := (-9)) S.1 S.2.1 dX7_wrong_54 (by decide) ?_
            exact rt_i S hr hlk (by rw [← i3, show n - k = 0 by omega]; rfl) dX7_wrong_56
          · skip
            refine lv_aload_n S.1 S.2.1 dX7_wrong_25 rfl (lv_at hl 0 rfl) ?_
            refine g7 S hI 0 rfl 0 (by decide) tw_236 rfl dX7_wrong_26 ?_
            refine lv_iload_n S.1 S.2.1 dX7_wrong_29 rfl (lv_at hl 2 rfl) ?_
            refine kX6_ruleBrokenIn S hI hG (by omega) tw_534 (rok (by decide)) hl.1 (Nat.le_of_ble_eq_true rfl) dX7_wrong_30 ?_
            have b4 : lrF pr w lap op mu ba la en k ≤ 7 := lrF_le
            refine lv_istore_n (lv' := [(3, .int (nI (lrF pr w lap op mu ba la en k))), (0, .ref (b 0)), (1, .int (nI 0)), (2, .int (nI k))]) S.1 S.2.1 dX7_wrong_33 rfl hl (by decide) rfl (fun ls hl => ?_)
            refine lv_iload_n S.1 S.2.1 dX7_wrong_34 rfl (lv_at hl 0 rfl) ?_
            refine ly_ifeq (tgt := 48) S (nI_z1 (by omega)) (nI_z2 (by omega)) dX7_wrong_35 (by decide) (fun h5 => ?_) (fun h5 => ?_)
            · skip
              refine lv_iinc (v := nI (k + 1)) (lv' := [(2, .int (nI (k + 1))), (3, .int (nI (lrF pr w lap op mu ba la en k))), (0, .ref (b 0)), (1, .int (nI 0))]) S.1 S.2.1 dX7_wrong_48 hl (k := 3) rfl (nJ_in _ _) (by decide) rfl (fun ls hl => ?_)
              refine lv_goto (tgt := 14) S.1 S.2.1 dX7_wrong_51 (by decide) ?_
              exact ih14 (k + 1) (by omega) (by rw [← i3, wrG_s (by omega) h5]) (by omega) _ (lv_sub hl [2, 3, 0] rfl)
            · skip
              refine lv_iload_n S.1 S.2.1 dX7_wrong_38 rfl (lv_at hl 2 rfl) ?_
              refine ly_ifne (tgt := 46) S (nI_z2 (by omega)) (nI_z1 (by omega)) dX7_wrong_39 (by decide) (fun h6 => ?_) (fun h6 => ?_)
              · skip
                exact absurd h6 (by decide)
              · skip
                refine lv_iload_n S.1 S.2.1 dX7_wrong_42 rfl (lv_at hl 3 rfl) ?_
                refine lv_goto (tgt := 47) S.1 S.2.1 dX7_wrong_43 (by decide) ?_
                exact rt_i S hr hlk (by rw [← i3, wrG_t (by omega) h5]) dX7_wrong_47
      exact L14 _ 0 (by omega) rfl (Nat.lt_succ_self _) _ (lv_sub hl [1, 2, 0] rfl)
    · skip
      exact absurd h2 (by decide)
theorem kX7_wrong_0 {p : Program} {l : Launch} {e : Env} {R : Room} {s : State} {m : MethodId} {args : Array Value} {below : List Frame} {meth : Method} {c : Code} {H : Heap} {locs : List Loc} {cells slots : Nat} {Q : State → Prop} {cc : ByteArray} {nL index pc : Nat} {own : String} {ls : Array Slot} {rest : List Value} {D : va_G} {K : Nat → ClassId} {b : Nat → Nat} {w n lap : Nat} {op mu ba la en : Nat → Nat} {pr : Nat → Option Nat} {fr : Bool} {co : Nat → Nat → Nat} {cw cj : Nat → Int64} {cl : Nat} {rv : Int64} {rc : Nat} {pj : Nat → Nat → Nat} {pw ch : Nat → Nat} {pl lc : Nat} {tl : Nat → Nat} (S : CallFix p m c cc nL s args lw_tb own) (hI : PI D K (cW K b w n lap op mu ba la en pr fr co cw cj cl rv rc pj pw ch pl lc tl) s H) (hG : GOK w n lap op mu ba la en pr) (hlink : Cond.methodLink own index yX7_wrong ∈ lw_tb) (hR : RO 4 R cells slots) (hsz : ls.size = nL) (hW : (rest.map fun v => v.category).sum ≤ 8) (hdg : decode cc pc = .ok (.invokevirtual index, 3)) (kk : W p l e R s m args below meth c H locs cells slots Q (F0 m (pc + 3) ls (.int (wrG (lrF pr w lap op mu ba la en) (fun q => q) n 0) :: rest))) : W p l e R s m args below meth c H locs cells slots Q (F0 m pc ls (.int (nI 0) :: .ref (b 0) :: rest)) :=
  kV (As := [.int (nI 0)]) (b := b 0) S (mX7_wrong_0 l hG) hlink tw_531 tw_532 tw_42 tw_533 (by show _ ∧ _ ∧ _ = some 1; decide +kernel) (by decide) hR blP (piU hI) (va_recv hI.2 hI.1 (ci := 7) (q0 := 0) rfl rfl) hsz rfl hW hdg kk

set_option maxHeartbeats 4000000 in
set_option maxRecDepth 100000 in
theorem mX7_wrong_1 (l : Launch) {D : va_G} {K : Nat → ClassId} {b : Nat → Nat} {w n lap : Nat} {op mu ba la en : Nat → Nat} {pr : Nat → Option Nat} {fr : Bool} {co : Nat → Nat → Nat} {cw cj : Nat → Int64} {cl : Nat} {rv : Int64} {rc : Nat} {pj : Nat → Nat → Nat} {pw ch : Nat → Nat} {pl lc : Nat} {tl : Nat → Nat} (hG : GOK w n lap op mu ba la en pr) : Met l yX7_wrong (TWd yX7_wrong cX7_wrong 4 (some .int)) (rmk 4) (va_Pc [.ref (b 0), .int (nI 1)] (fun U => PI D K (cW K b w n lap op mu ba la en pr fr co cw cj cl rv rc pj pw ch pl lc tl) U U.heap)) (QcRead (wrG (lrF pr w lap op mu ba la en) (lrF pr w lap op mu ba la en) n 0)) 0 0 (fun _ => False) := by
  refine mt_of (by decide +kernel) (Nat.le_of_ble_eq_true rfl) ?_
  intro p e s m below meth c S hr hlk hI ls hl
  have S : CallFix p m c cX7_wrong 4 s ([.ref (b 0), .int (nI 1)] : List Value).toArray lw_tb RX7 := S
  have hl : lv_has ls 4 [(0, .ref (b 0)), (1, .int (nI 1))] := hl
  obtain ⟨gw1, gw2, gn, gl1, gl2, gop, gmu, gba, gla, gen, gpr, gop2, gmu2, gba2, gla2, gme, gbe, gle, gee⟩ := id hG
  refine lv_iload_n S.1 S.2.1 dX7_wrong_0 rfl (lv_at hl 1 rfl) ?_
  refine ly_iflt (tgt := 9) S (fun q => (nI_n1 (by omega) q : False)) (fun q => nI_n2 q) dX7_wrong_1 (by decide) (fun h1 => ?_) (fun h1 => ?_)
  · skip
    exact h1.elim
  · skip
    refine lv_iload_n S.1 S.2.1 dX7_wrong_4 rfl (lv_at hl 1 rfl) ?_
    refine lv_iconst (v := nI 1) S.1 S.2.1 dX7_wrong_5 (by decide) ?_
    refine ly_cmle (tgt := 12) S (nI_le1 (by omega) (by omega)) (nI_le2 (by omega) (by omega)) dX7_wrong_6 (by decide) (fun h2 => ?_) (fun h2 => ?_)
    · skip
      refine lv_iconst (v := nI 0) S.1 S.2.1 dX7_wrong_12 (by decide) ?_
      refine lv_istore_n (lv' := [(2, .int (nI 0)), (0, .ref (b 0)), (1, .int (nI 1))]) S.1 S.2.1 dX7_wrong_13 rfl hl (by decide) rfl (fun ls hl => ?_)
      have L14 : ∀ (f14 : Nat) (k : Nat), (k ≤ n) → (wrG (lrF pr w lap op mu ba la en) (lrF pr w lap op mu ba la en) (n - k) k = wrG (lrF pr w lap op mu ba la en) (lrF pr w lap op mu ba la en) n 0) → n - k < f14 → ∀ (ls : Array Slot), lv_has ls 4 [(0, .ref (b 0)), (1, .int (nI 1)), (2, .int (nI k))] → W p l e (rmk 4) s m ([.ref (b 0), .int (nI 1)] : List Value).toArray below meth c s.heap [] 0 0 (MQ below (QcRead (wrG (lrF pr w lap op mu ba la en) (lrF pr w lap op mu ba la en) n 0)) ([.ref (b 0), .int (nI 1)] : List Value).toArray s 0 0 (fun _ => False)) (F0 m 14 ls []) := by
        intro f14
        induction f14 with
        | zero =>
          intro k i2 i3 hm
          exact absurd hm (Nat.not_lt_zero _)
        | succ f14 ih14 =>
          intro k i2 i3 hm14 ls hl
          refine lv_iload_n S.1 S.2.1 dX7_wrong_14 rfl (lv_at hl 2 rfl) ?_
          refine lv_aload_n S.1 S.2.1 dX7_wrong_15 rfl (lv_at hl 0 rfl) ?_
          refine g7 S hI 0 rfl 0 (by decide) tw_236 rfl dX7_wrong_16 ?_
          refine g6 S hI 1 rfl 4 (by decide) tw_129 rfl dX7_wrong_19 ?_
          refine ly_cmge (tgt := 54) S (nI_le1 (by omega) (by omega)) (nI_le2 (by omega) (by omega)) dX7_wrong_22 (by decide) (fun h3 => ?_) (fun h3 => ?_)
          · skip
            refine lv_bipush (v := (-9)) S.1 S.2.1 dX7_wrong_54 (by decide) ?_
            exact rt_i S hr hlk (by rw [← i3, show n - k = 0 by omega]; rfl) dX7_wrong_56
          · skip
            refine lv_aload_n S.1 S.2.1 dX7_wrong_25 rfl (lv_at hl 0 rfl) ?_
            refine g7 S hI 0 rfl 0 (by decide) tw_236 rfl dX7_wrong_26 ?_
            refine lv_iload_n S.1 S.2.1 dX7_wrong_29 rfl (lv_at hl 2 rfl) ?_
            refine kX6_ruleBrokenIn S hI hG (by omega) tw_534 (rok (by decide)) hl.1 (Nat.le_of_ble_eq_true rfl) dX7_wrong_30 ?_
            have b4 : lrF pr w lap op mu ba la en k ≤ 7 := lrF_le
            refine lv_istore_n (lv' := [(3, .int (nI (lrF pr w lap op mu ba la en k))), (0, .ref (b 0)), (1, .int (nI 1)), (2, .int (nI k))]) S.1 S.2.1 dX7_wrong_33 rfl hl (by decide) rfl (fun ls hl => ?_)
            refine lv_iload_n S.1 S.2.1 dX7_wrong_34 rfl (lv_at hl 0 rfl) ?_
            refine ly_ifeq (tgt := 48) S (nI_z1 (by omega)) (nI_z2 (by omega)) dX7_wrong_35 (by decide) (fun h5 => ?_) (fun h5 => ?_)
            · skip
              refine lv_iinc (v := nI (k + 1)) (lv' := [(2, .int (nI (k + 1))), (3, .int (nI (lrF pr w lap op mu ba la en k))), (0, .ref (b 0)), (1, .int (nI 1))]) S.1 S.2.1 dX7_wrong_48 hl (k := 3) rfl (nJ_in _ _) (by decide) rfl (fun ls hl => ?_)
              refine lv_goto (tgt := 14) S.1 S.2.1 dX7_wrong_51 (by decide) ?_
              exact ih14 (k + 1) (by omega) (by rw [← i3, wrG_s (by omega) h5]) (by omega) _ (lv_sub hl [2, 3, 0] rfl)
            · skip
              refine lv_iload_n S.1 S.2.1 dX7_wrong_38 rfl (lv_at hl 2 rfl) ?_
              refine ly_ifne (tgt := 46) S (nI_z2 (by omega)) (nI_z1 (by omega)) dX7_wrong_39 (by decide) (fun h6 => ?_) (fun h6 => ?_)
              · skip
                refine lv_iload_n S.1 S.2.1 dX7_wrong_46 rfl (lv_at hl 0 rfl) ?_
                exact rt_i S hr hlk (by rw [← i3, wrG_t (by omega) h5]) dX7_wrong_47
              · skip
                exact absurd h6 (by decide)
      exact L14 _ 0 (by omega) rfl (Nat.lt_succ_self _) _ (lv_sub hl [1, 2, 0] rfl)
    · skip
      exact absurd h2 (by decide)
theorem kX7_wrong_1 {p : Program} {l : Launch} {e : Env} {R : Room} {s : State} {m : MethodId} {args : Array Value} {below : List Frame} {meth : Method} {c : Code} {H : Heap} {locs : List Loc} {cells slots : Nat} {Q : State → Prop} {cc : ByteArray} {nL index pc : Nat} {own : String} {ls : Array Slot} {rest : List Value} {D : va_G} {K : Nat → ClassId} {b : Nat → Nat} {w n lap : Nat} {op mu ba la en : Nat → Nat} {pr : Nat → Option Nat} {fr : Bool} {co : Nat → Nat → Nat} {cw cj : Nat → Int64} {cl : Nat} {rv : Int64} {rc : Nat} {pj : Nat → Nat → Nat} {pw ch : Nat → Nat} {pl lc : Nat} {tl : Nat → Nat} (S : CallFix p m c cc nL s args lw_tb own) (hI : PI D K (cW K b w n lap op mu ba la en pr fr co cw cj cl rv rc pj pw ch pl lc tl) s H) (hG : GOK w n lap op mu ba la en pr) (hlink : Cond.methodLink own index yX7_wrong ∈ lw_tb) (hR : RO 4 R cells slots) (hsz : ls.size = nL) (hW : (rest.map fun v => v.category).sum ≤ 8) (hdg : decode cc pc = .ok (.invokevirtual index, 3)) (kk : W p l e R s m args below meth c H locs cells slots Q (F0 m (pc + 3) ls (.int (wrG (lrF pr w lap op mu ba la en) (lrF pr w lap op mu ba la en) n 0) :: rest))) : W p l e R s m args below meth c H locs cells slots Q (F0 m pc ls (.int (nI 1) :: .ref (b 0) :: rest)) :=
  kV (As := [.int (nI 1)]) (b := b 0) S (mX7_wrong_1 l hG) hlink tw_531 tw_532 tw_42 tw_533 (by show _ ∧ _ ∧ _ = some 1; decide +kernel) (by decide) hR blP (piU hI) (va_recv hI.2 hI.1 (ci := 7) (q0 := 0) rfl rfl) hsz rfl hW hdg kk

set_option maxHeartbeats 4000000 in
set_option maxRecDepth 100000 in
theorem mX7_cost (l : Launch) {D : va_G} {K : Nat → ClassId} {b : Nat → Nat} {w n lap : Nat} {op mu ba la en : Nat → Nat} {pr : Nat → Option Nat} {fr : Bool} {co : Nat → Nat → Nat} {cw cj : Nat → Int64} {cl : Nat} {rv : Int64} {rc : Nat} {pj : Nat → Nat → Nat} {pw ch : Nat → Nat} {pl lc : Nat} {tl : Nat → Nat} (hDis : Dis b 44) (hG : GOK w n lap op mu ba la en pr) (hVO : VOK w n op mu ba en pr fr co cl rv rc pj pw ch pl lc tl) : Met l yX7_cost (TWd yX7_cost cX7_cost 1 (some .int)) (rmk 4) (va_Pc [.ref (b 0)] (fun U => PI D K (cW K b w n lap op mu ba la en pr fr co cw cj cl rv rc pj pw ch pl lc tl) U U.heap)) (QX D K (fun u : CSc => some (.int (nI (sumN (fun q => coF pr w (op q) (la q)) n)))) (fun u => (cW K b w n lap op mu ba la en pr u.1 u.2.1 u.2.2.1 u.2.2.2.1 u.2.2.2.2.1 u.2.2.2.2.2.1 u.2.2.2.2.2.2.1 u.2.2.2.2.2.2.2.1 u.2.2.2.2.2.2.2.2.1 u.2.2.2.2.2.2.2.2.2.1 u.2.2.2.2.2.2.2.2.2.2.1 u.2.2.2.2.2.2.2.2.2.2.2.1 u.2.2.2.2.2.2.2.2.2.2.2.2)) (fun u => VOKu w n op mu ba en pr u) (adA b 44)) 0 0 (adA b 44) := by
  refine mt_of (by decide +kernel) (Nat.le_of_ble_eq_true rfl) ?_
  intro p e s m below meth c S hr hlk hI ls hl
  have S : CallFix p m c cX7_cost 1 s ([.ref (b 0)] : List Value).toArray lw_tb RX7 := S
  have hl : lv_has ls 1 [(0, .ref (b 0))] := hl
  have hS : va_S (adA b 44) s.heap s.heap [] := va_S.rf
  obtain ⟨gw1, gw2, gn, gl1, gl2, gop, gmu, gba, gla, gen, gpr, gop2, gmu2, gba2, gla2, gme, gbe, gle, gee⟩ := id hG
  obtain ⟨v1, v2, v3, v4, v5, v6, v7, v8, v9, v10, v11⟩ := id hVO
  refine lv_aload_n S.1 S.2.1 dX7_cost_0 rfl (lv_at hl 0 rfl) ?_
  refine kX7_tallyLaid S hI hS hDis hG v11 tw_549 (rok (by decide)) hl.1 (Nat.le_of_ble_eq_true rfl) dX7_cost_1 (fun u1 H locs hu1 hI hS _ _ => ?_)
  refine lv_aload_n S.1 S.2.1 dX7_cost_4 rfl (lv_at hl 0 rfl) ?_
  refine g7 S hI 0 rfl 4 (by decide) tw_240 rfl dX7_cost_5 ?_
  refine lv_aload_n S.1 S.2.1 dX7_cost_8 rfl (lv_at hl 0 rfl) ?_
  refine g7 S hI 0 rfl 0 (by decide) tw_236 rfl dX7_cost_9 ?_
  refine g6 S hI 1 rfl 0 (by decide) tw_122 rfl dX7_cost_12 ?_
  refine kX5_costBy S hI hG tw_553 (rok (by decide)) hl.1 (Nat.le_of_ble_eq_true rfl) dX7_cost_15 ?_
  exact rw_i S hr hlk (fr, co, cw, cj, cl, rv, rc, pj, pw, ch, pl, lc, tyS tl op la w n) (by rw [M_cost (op := op) (jf := la) (n := n) (tl := tyS tl op la w n) gw2 (fun q hq => tyS_e hq)]) ⟨v1, v2, v3, v4, v5, v6, v7, v8, v9, v10, tyS_le gw2 gn v11⟩ hI hS dX7_cost_18
theorem kX7_cost {p : Program} {l : Launch} {e : Env} {R : Room} {s : State} {m : MethodId} {args : Array Value} {below : List Frame} {meth : Method} {c : Code} {H H0 : Heap} {locs : List Loc} {cells slots : Nat} {Q : State → Prop} {cc : ByteArray} {nL index pc : Nat} {own : String} {ls : Array Slot} {rest : List Value} {D : va_G} {K : Nat → ClassId} {b : Nat → Nat} {w n lap : Nat} {op mu ba la en : Nat → Nat} {pr : Nat → Option Nat} {fr : Bool} {co : Nat → Nat → Nat} {cw cj : Nat → Int64} {cl : Nat} {rv : Int64} {rc : Nat} {pj : Nat → Nat → Nat} {pw ch : Nat → Nat} {pl lc : Nat} {tl : Nat → Nat} (S : CallFix p m c cc nL s args lw_tb own) (hI : PI D K (cW K b w n lap op mu ba la en pr fr co cw cj cl rv rc pj pw ch pl lc tl) s H) (hS : va_S (adA b 44) H0 H locs) (hDis : Dis b 44) (hG : GOK w n lap op mu ba la en pr) (hVO : VOK w n op mu ba en pr fr co cl rv rc pj pw ch pl lc tl) (hlink : Cond.methodLink own index yX7_cost ∈ lw_tb) (hR : RO 4 R cells slots) (hsz : ls.size = nL) (hW : (rest.map fun v => v.category).sum ≤ 8) (hdg : decode cc pc = .ok (.invokevirtual index, 3)) (kk : ∀ (u : CSc) (H1 : Heap) (locs1 : List Loc), (VOKu w n op mu ba en pr u) → PI D K (cW K b w n lap op mu ba la en pr u.1 u.2.1 u.2.2.1 u.2.2.2.1 u.2.2.2.2.1 u.2.2.2.2.2.1 u.2.2.2.2.2.2.1 u.2.2.2.2.2.2.2.1 u.2.2.2.2.2.2.2.2.1 u.2.2.2.2.2.2.2.2.2.1 u.2.2.2.2.2.2.2.2.2.2.1 u.2.2.2.2.2.2.2.2.2.2.2.1 u.2.2.2.2.2.2.2.2.2.2.2.2) s H1 → va_S (adA b 44) H0 H1 locs1 → H.size ≤ H1.size → (∀ q : Nat, q < H.size → ¬ (adA b 44) q → H1[q]? = H[q]?) → W p l e R s m args below meth c H1 locs1 cells slots Q (F0 m (pc + 3) ls ((.int (nI (sumN (fun q => coF pr w (op q) (la q)) n))) :: rest))) : W p l e R s m args below meth c H locs cells slots Q (F0 m pc ls (.ref (b 0) :: rest)) :=
  kVX (As := []) (b := b 0) S (mX7_cost l hDis hG hVO) hlink tw_546 tw_547 tw_42 tw_548 (by show _ ∧ _ ∧ _ = some 0; decide +kernel) (by decide) hR blP (piU hI) (va_recv hI.2 hI.1 (ci := 7) (q0 := 0) rfl rfl) hS (fun _ h => h) hsz rfl hW hdg kk

set_option maxHeartbeats 4000000 in
set_option maxRecDepth 100000 in
theorem mX7_pieces_a (l : Launch) {D : va_G} {K : Nat → ClassId} {b : Nat → Nat} {w n lap : Nat} {op mu ba la en : Nat → Nat} {pr : Nat → Option Nat} {fr : Bool} {co : Nat → Nat → Nat} {cw cj : Nat → Int64} {cl : Nat} {rv : Int64} {rc : Nat} {pj : Nat → Nat → Nat} {pw ch : Nat → Nat} {pl lc : Nat} {tl : Nat → Nat} {v : Int32} (hG : GOK w n lap op mu ba la en pr) (hv : wiI v (nI 1) (nI 10) = false) : Met l yX7_pieces (TWd yX7_pieces cX7_pieces 2 (some .int)) (rmk 4) (va_Pc [.ref (b 0), .int v] (fun U => PI D K (cW K b w n lap op mu ba la en pr fr co cw cj cl rv rc pj pw ch pl lc tl) U U.heap)) (QcRead ((-2))) 0 0 (fun _ => False) := by
  refine mt_of (by decide +kernel) (Nat.le_of_ble_eq_true rfl) ?_
  intro p e s m below meth c S hr hlk hI ls hl
  have S : CallFix p m c cX7_pieces 2 s ([.ref (b 0), .int v] : List Value).toArray lw_tb RX7 := S
  have hl : lv_has ls 2 [(0, .ref (b 0)), (1, .int v)] := hl
  obtain ⟨gw1, gw2, gn, gl1, gl2, gop, gmu, gba, gla, gen, gpr, gop2, gmu2, gba2, gla2, gme, gbe, gle, gee⟩ := id hG
  refine lv_iload_n S.1 S.2.1 dX7_pieces_0 rfl (lv_at hl 1 rfl) ?_
  refine lv_iconst (v := nI 1) S.1 S.2.1 dX7_pieces_1 (by decide) ?_
  refine ly_cmlt (tgt := 11) S (fun q => q) (fun q => q) dX7_pieces_2 (by decide) (fun h1 => ?_) (fun h1 => ?_)
  · skip
    refine lv_bipush (v := (-2)) S.1 S.2.1 dX7_pieces_11 (by decide) ?_
    exact rt_i S hr hlk rfl dX7_pieces_13
  · skip
    refine lv_iload_n S.1 S.2.1 dX7_pieces_5 rfl (lv_at hl 1 rfl) ?_
    refine lv_bipush (v := nI 10) S.1 S.2.1 dX7_pieces_6 (by decide) ?_
    refine ly_cmle (tgt := 14) S (fun q => q) (fun q => q) dX7_pieces_8 (by decide) (fun h2 => ?_) (fun h2 => ?_)
    · skip
      exact absurd (wiI_t h1 (Int32.not_lt.mpr h2)) (by rw [hv]; decide)
    · skip
      refine lv_bipush (v := (-2)) S.1 S.2.1 dX7_pieces_11 (by decide) ?_
      exact rt_i S hr hlk rfl dX7_pieces_13
theorem kX7_pieces_a {p : Program} {l : Launch} {e : Env} {R : Room} {s : State} {m : MethodId} {args : Array Value} {below : List Frame} {meth : Method} {c : Code} {H : Heap} {locs : List Loc} {cells slots : Nat} {Q : State → Prop} {cc : ByteArray} {nL index pc : Nat} {own : String} {ls : Array Slot} {rest : List Value} {D : va_G} {K : Nat → ClassId} {b : Nat → Nat} {w n lap : Nat} {op mu ba la en : Nat → Nat} {pr : Nat → Option Nat} {fr : Bool} {co : Nat → Nat → Nat} {cw cj : Nat → Int64} {cl : Nat} {rv : Int64} {rc : Nat} {pj : Nat → Nat → Nat} {pw ch : Nat → Nat} {pl lc : Nat} {tl : Nat → Nat} {v : Int32} (S : CallFix p m c cc nL s args lw_tb own) (hI : PI D K (cW K b w n lap op mu ba la en pr fr co cw cj cl rv rc pj pw ch pl lc tl) s H) (hG : GOK w n lap op mu ba la en pr) (hv : wiI v (nI 1) (nI 10) = false) (hlink : Cond.methodLink own index yX7_pieces ∈ lw_tb) (hR : RO 4 R cells slots) (hsz : ls.size = nL) (hW : (rest.map fun v => v.category).sum ≤ 8) (hdg : decode cc pc = .ok (.invokevirtual index, 3)) (kk : W p l e R s m args below meth c H locs cells slots Q (F0 m (pc + 3) ls (.int ((-2)) :: rest))) : W p l e R s m args below meth c H locs cells slots Q (F0 m pc ls (.int v :: .ref (b 0) :: rest)) :=
  kV (As := [.int v]) (b := b 0) S (mX7_pieces_a l hG hv) hlink tw_559 tw_560 tw_42 tw_561 (by show _ ∧ _ ∧ _ = some 1; decide +kernel) (by decide) hR blP (piU hI) (va_recv hI.2 hI.1 (ci := 7) (q0 := 0) rfl rfl) hsz rfl hW hdg kk

set_option maxHeartbeats 4000000 in
set_option maxRecDepth 100000 in
theorem mX7_pieces_b (l : Launch) {D : va_G} {K : Nat → ClassId} {b : Nat → Nat} {w n lap : Nat} {op mu ba la en : Nat → Nat} {pr : Nat → Option Nat} {fr : Bool} {co : Nat → Nat → Nat} {cw cj : Nat → Int64} {cl : Nat} {rv : Int64} {rc : Nat} {pj : Nat → Nat → Nat} {pw ch : Nat → Nat} {pl lc : Nat} {tl : Nat → Nat} {L : Nat} (hDis : Dis b 44) (hG : GOK w n lap op mu ba la en pr) (hVO : VOK w n op mu ba en pr fr co cl rv rc pj pw ch pl lc tl) (h1 : 1 ≤ L) (h2 : L ≤ 10) : Met l yX7_pieces (TWd yX7_pieces cX7_pieces 2 (some .int)) (rmk 4) (va_Pc [.ref (b 0), .int (nI L)] (fun U => PI D K (cW K b w n lap op mu ba la en pr fr co cw cj cl rv rc pj pw ch pl lc tl) U U.heap)) (QX D K (fun u : CSc => some (.int (nI (sumN (fun q => pcF w (op q) (la q) L) n)))) (fun u => (cW K b w n lap op mu ba la en pr u.1 u.2.1 u.2.2.1 u.2.2.2.1 u.2.2.2.2.1 u.2.2.2.2.2.1 u.2.2.2.2.2.2.1 u.2.2.2.2.2.2.2.1 u.2.2.2.2.2.2.2.2.1 u.2.2.2.2.2.2.2.2.2.1 u.2.2.2.2.2.2.2.2.2.2.1 u.2.2.2.2.2.2.2.2.2.2.2.1 u.2.2.2.2.2.2.2.2.2.2.2.2)) (fun u => VOKu w n op mu ba en pr u) (adA b 44)) 0 0 (adA b 44) := by
  refine mt_of (by decide +kernel) (Nat.le_of_ble_eq_true rfl) ?_
  intro p e s m below meth c S hr hlk hI ls hl
  have S : CallFix p m c cX7_pieces 2 s ([.ref (b 0), .int (nI L)] : List Value).toArray lw_tb RX7 := S
  have hl : lv_has ls 2 [(0, .ref (b 0)), (1, .int (nI L))] := hl
  have hS : va_S (adA b 44) s.heap s.heap [] := va_S.rf
  obtain ⟨gw1, gw2, gn, gl1, gl2, gop, gmu, gba, gla, gen, gpr, gop2, gmu2, gba2, gla2, gme, gbe, gle, gee⟩ := id hG
  obtain ⟨v1, v2, v3, v4, v5, v6, v7, v8, v9, v10, v11⟩ := id hVO
  refine lv_iload_n S.1 S.2.1 dX7_pieces_0 rfl (lv_at hl 1 rfl) ?_
  refine lv_iconst (v := nI 1) S.1 S.2.1 dX7_pieces_1 (by decide) ?_
  refine ly_cmlt (tgt := 11) S (nI_l1 (by omega) (by omega)) (nI_l2 (by omega) (by omega)) dX7_pieces_2 (by decide) (fun h1 => ?_) (fun h1 => ?_)
  · skip
    exact absurd h1 (by omega)
  · skip
    refine lv_iload_n S.1 S.2.1 dX7_pieces_5 rfl (lv_at hl 1 rfl) ?_
    refine lv_bipush (v := nI 10) S.1 S.2.1 dX7_pieces_6 (by decide) ?_
    refine ly_cmle (tgt := 14) S (nI_le1 (by omega) (by omega)) (nI_le2 (by omega) (by omega)) dX7_pieces_8 (by decide) (fun h2 => ?_) (fun h2 => ?_)
    · skip
      refine lv_aload_n S.1 S.2.1 dX7_pieces_14 rfl (lv_at hl 0 rfl) ?_
      refine kX7_tallyLaid S hI hS hDis hG v11 tw_549 (rok (by decide)) hl.1 (Nat.le_of_ble_eq_true rfl) dX7_pieces_15 (fun u3 H locs hu3 hI hS _ _ => ?_)
      refine lv_aload_n S.1 S.2.1 dX7_pieces_18 rfl (lv_at hl 0 rfl) ?_
      refine g7 S hI 0 rfl 4 (by decide) tw_240 rfl dX7_pieces_19 ?_
      refine lv_iload_n S.1 S.2.1 dX7_pieces_22 rfl (lv_at hl 1 rfl) ?_
      refine kX5_of S hI hG (by omega) tw_510 (rok (by decide)) hl.1 (Nat.le_of_ble_eq_true rfl) dX7_pieces_23 ?_
      exact rw_i S hr hlk (fr, co, cw, cj, cl, rv, rc, pj, pw, ch, pl, lc, tyS tl op la w n) (by rw [tyS_e (by omega)]) ⟨v1, v2, v3, v4, v5, v6, v7, v8, v9, v10, tyS_le gw2 gn v11⟩ hI hS dX7_pieces_26
    · skip
      exact absurd h2 (by omega)
theorem kX7_pieces_b {p : Program} {l : Launch} {e : Env} {R : Room} {s : State} {m : MethodId} {args : Array Value} {below : List Frame} {meth : Method} {c : Code} {H H0 : Heap} {locs : List Loc} {cells slots : Nat} {Q : State → Prop} {cc : ByteArray} {nL index pc : Nat} {own : String} {ls : Array Slot} {rest : List Value} {D : va_G} {K : Nat → ClassId} {b : Nat → Nat} {w n lap : Nat} {op mu ba la en : Nat → Nat} {pr : Nat → Option Nat} {fr : Bool} {co : Nat → Nat → Nat} {cw cj : Nat → Int64} {cl : Nat} {rv : Int64} {rc : Nat} {pj : Nat → Nat → Nat} {pw ch : Nat → Nat} {pl lc : Nat} {tl : Nat → Nat} {L : Nat} (S : CallFix p m c cc nL s args lw_tb own) (hI : PI D K (cW K b w n lap op mu ba la en pr fr co cw cj cl rv rc pj pw ch pl lc tl) s H) (hS : va_S (adA b 44) H0 H locs) (hDis : Dis b 44) (hG : GOK w n lap op mu ba la en pr) (hVO : VOK w n op mu ba en pr fr co cl rv rc pj pw ch pl lc tl) (h1 : 1 ≤ L) (h2 : L ≤ 10) (hlink : Cond.methodLink own index yX7_pieces ∈ lw_tb) (hR : RO 4 R cells slots) (hsz : ls.size = nL) (hW : (rest.map fun v => v.category).sum ≤ 8) (hdg : decode cc pc = .ok (.invokevirtual index, 3)) (kk : ∀ (u : CSc) (H1 : Heap) (locs1 : List Loc), (VOKu w n op mu ba en pr u) → PI D K (cW K b w n lap op mu ba la en pr u.1 u.2.1 u.2.2.1 u.2.2.2.1 u.2.2.2.2.1 u.2.2.2.2.2.1 u.2.2.2.2.2.2.1 u.2.2.2.2.2.2.2.1 u.2.2.2.2.2.2.2.2.1 u.2.2.2.2.2.2.2.2.2.1 u.2.2.2.2.2.2.2.2.2.2.1 u.2.2.2.2.2.2.2.2.2.2.2.1 u.2.2.2.2.2.2.2.2.2.2.2.2) s H1 → va_S (adA b 44) H0 H1 locs1 → H.size ≤ H1.size → (∀ q : Nat, q < H.size → ¬ (adA b 44) q → H1[q]? = H[q]?) → W p l e R s m args below meth c H1 locs1 cells slots Q (F0 m (pc + 3) ls ((.int (nI (sumN (fun q => pcF w (op q) (la q) L) n))) :: rest))) : W p l e R s m args below meth c H locs cells slots Q (F0 m pc ls (.int (nI L) :: .ref (b 0) :: rest)) :=
  kVX (As := [.int (nI L)]) (b := b 0) S (mX7_pieces_b l hDis hG hVO h1 h2) hlink tw_559 tw_560 tw_42 tw_561 (by show _ ∧ _ ∧ _ = some 1; decide +kernel) (by decide) hR blP (piU hI) (va_recv hI.2 hI.1 (ci := 7) (q0 := 0) rfl rfl) hS (fun _ h => h) hsz rfl hW hdg kk

set_option maxHeartbeats 4000000 in
set_option maxRecDepth 100000 in
theorem mX7_piece_a (l : Launch) {D : va_G} {K : Nat → ClassId} {b : Nat → Nat} {w n lap : Nat} {op mu ba la en : Nat → Nat} {pr : Nat → Option Nat} {fr : Bool} {co : Nat → Nat → Nat} {cw cj : Nat → Int64} {cl : Nat} {rv : Int64} {rc : Nat} {pj : Nat → Nat → Nat} {pw ch : Nat → Nat} {pl lc : Nat} {tl : Nat → Nat} {v : Int32} {z : Int32} (hG : GOK w n lap op mu ba la en pr) (hv : wiI v 0 (nI n - 1) = false) : Met l yX7_piece (TWd yX7_piece cX7_piece 4 (some .int)) (rmk 3) (va_Pc [.ref (b 0), .int v, .int z] (fun U => PI D K (cW K b w n lap op mu ba la en pr fr co cw cj cl rv rc pj pw ch pl lc tl) U U.heap)) (QcRead ((-1))) 0 0 (fun _ => False) := by
  refine mt_of (by decide +kernel) (Nat.le_of_ble_eq_true rfl) ?_
  intro p e s m below meth c S hr hlk hI ls hl
  have S : CallFix p m c cX7_piece 4 s ([.ref (b 0), .int v, .int z] : List Value).toArray lw_tb RX7 := S
  have hl : lv_has ls 4 [(0, .ref (b 0)), (1, .int v), (2, .int z)] := hl
  obtain ⟨gw1, gw2, gn, gl1, gl2, gop, gmu, gba, gla, gen, gpr, gop2, gmu2, gba2, gla2, gme, gbe, gle, gee⟩ := id hG
  refine lv_aload_n S.1 S.2.1 dX7_piece_0 rfl (lv_at hl 0 rfl) ?_
  refine g7 S hI 0 rfl 0 (by decide) tw_236 rfl dX7_piece_1 ?_
  refine lv_iload_n S.1 S.2.1 dX7_piece_4 rfl (lv_at hl 1 rfl) ?_
  refine kX6_has S hI hG tw_292 (rok (by decide)) hl.1 (Nat.le_of_ble_eq_true rfl) dX7_piece_5 ?_
  refine ly_ifne (tgt := 13) S bI_e2 bI_e1 dX7_piece_8 (by decide) (fun h1 => ?_) (fun h1 => ?_)
  · skip
    exact absurd h1 (by rw [hv]; decide)
  · skip
    refine lv_iconst (v := (-1)) S.1 S.2.1 dX7_piece_11 (by decide) ?_
    exact rt_i S hr hlk rfl dX7_piece_12
theorem kX7_piece_a {p : Program} {l : Launch} {e : Env} {R : Room} {s : State} {m : MethodId} {args : Array Value} {below : List Frame} {meth : Method} {c : Code} {H : Heap} {locs : List Loc} {cells slots : Nat} {Q : State → Prop} {cc : ByteArray} {nL index pc : Nat} {own : String} {ls : Array Slot} {rest : List Value} {D : va_G} {K : Nat → ClassId} {b : Nat → Nat} {w n lap : Nat} {op mu ba la en : Nat → Nat} {pr : Nat → Option Nat} {fr : Bool} {co : Nat → Nat → Nat} {cw cj : Nat → Int64} {cl : Nat} {rv : Int64} {rc : Nat} {pj : Nat → Nat → Nat} {pw ch : Nat → Nat} {pl lc : Nat} {tl : Nat → Nat} {v : Int32} {z : Int32} (S : CallFix p m c cc nL s args lw_tb own) (hI : PI D K (cW K b w n lap op mu ba la en pr fr co cw cj cl rv rc pj pw ch pl lc tl) s H) (hG : GOK w n lap op mu ba la en pr) (hv : wiI v 0 (nI n - 1) = false) (hlink : Cond.methodLink own index yX7_piece ∈ lw_tb) (hR : RO 3 R cells slots) (hsz : ls.size = nL) (hW : (rest.map fun v => v.category).sum ≤ 8) (hdg : decode cc pc = .ok (.invokevirtual index, 3)) (kk : W p l e R s m args below meth c H locs cells slots Q (F0 m (pc + 3) ls (.int ((-1)) :: rest))) : W p l e R s m args below meth c H locs cells slots Q (F0 m pc ls (.int z :: .int v :: .ref (b 0) :: rest)) :=
  kV (As := [.int v, .int z]) (b := b 0) S (mX7_piece_a l hG hv) hlink tw_563 tw_564 tw_42 tw_565 (by show _ ∧ _ ∧ _ = some 2; decide +kernel) (by decide) hR blP (piU hI) (va_recv hI.2 hI.1 (ci := 7) (q0 := 0) rfl rfl) hsz rfl hW hdg kk

set_option maxHeartbeats 4000000 in
set_option maxRecDepth 100000 in
theorem mX7_piece_b (l : Launch) {D : va_G} {K : Nat → ClassId} {b : Nat → Nat} {w n lap : Nat} {op mu ba la en : Nat → Nat} {pr : Nat → Option Nat} {fr : Bool} {co : Nat → Nat → Nat} {cw cj : Nat → Int64} {cl : Nat} {rv : Int64} {rc : Nat} {pj : Nat → Nat → Nat} {pw ch : Nat → Nat} {pl lc : Nat} {tl : Nat → Nat} {ci : Nat} {z : Int32} (hG : GOK w n lap op mu ba la en pr) (hc : ci < n) (hz : wiI z (nI 0) (nI (w - 1)) = false) : Met l yX7_piece (TWd yX7_piece cX7_piece 4 (some .int)) (rmk 3) (va_Pc [.ref (b 0), .int (nI ci), .int z] (fun U => PI D K (cW K b w n lap op mu ba la en pr fr co cw cj cl rv rc pj pw ch pl lc tl) U U.heap)) (QcRead ((-2))) 0 0 (fun _ => False) := by
  refine mt_of (by decide +kernel) (Nat.le_of_ble_eq_true rfl) ?_
  intro p e s m below meth c S hr hlk hI ls hl
  have S : CallFix p m c cX7_piece 4 s ([.ref (b 0), .int (nI ci), .int z] : List Value).toArray lw_tb RX7 := S
  have hl : lv_has ls 4 [(0, .ref (b 0)), (1, .int (nI ci)), (2, .int z)] := hl
  obtain ⟨gw1, gw2, gn, gl1, gl2, gop, gmu, gba, gla, gen, gpr, gop2, gmu2, gba2, gla2, gme, gbe, gle, gee⟩ := id hG
  refine lv_aload_n S.1 S.2.1 dX7_piece_0 rfl (lv_at hl 0 rfl) ?_
  refine g7 S hI 0 rfl 0 (by decide) tw_236 rfl dX7_piece_1 ?_
  refine lv_iload_n S.1 S.2.1 dX7_piece_4 rfl (lv_at hl 1 rfl) ?_
  refine kX6_has S hI hG tw_292 (rok (by decide)) hl.1 (Nat.le_of_ble_eq_true rfl) dX7_piece_5 ?_
  refine ly_ifne (tgt := 13) S bI_e2 bI_e1 dX7_piece_8 (by decide) (fun h1 => ?_) (fun h1 => ?_)
  · skip
    refine lv_iload_n S.1 S.2.1 dX7_piece_13 rfl (lv_at hl 2 rfl) ?_
    refine ly_iflt (tgt := 28) S (fun q => q) (fun q => q) dX7_piece_14 (by decide) (fun h2 => ?_) (fun h2 => ?_)
    · skip
      refine lv_bipush (v := (-2)) S.1 S.2.1 dX7_piece_28 (by decide) ?_
      exact rt_i S hr hlk rfl dX7_piece_30
    · skip
      refine lv_iload_n S.1 S.2.1 dX7_piece_17 rfl (lv_at hl 2 rfl) ?_
      refine lv_aload_n S.1 S.2.1 dX7_piece_18 rfl (lv_at hl 0 rfl) ?_
      refine g7 S hI 0 rfl 0 (by decide) tw_236 rfl dX7_piece_19 ?_
      refine g6 S hI 1 rfl 3 (by decide) tw_126 rfl dX7_piece_22 ?_
      refine ly_cmlt (tgt := 31) S (fun q => q) (fun q => q) dX7_piece_25 (by decide) (fun h3 => ?_) (fun h3 => ?_)
      · skip
        exact absurd (wiI_t (z0 := nI 0) h2 (pc_z h3 gw1 gw2)) (by rw [hz]; decide)
      · skip
        refine lv_bipush (v := (-2)) S.1 S.2.1 dX7_piece_28 (by decide) ?_
        exact rt_i S hr hlk rfl dX7_piece_30
  · skip
    exact absurd h1 (by rw [wiC (by omega) (by omega)]; decide)
theorem kX7_piece_b {p : Program} {l : Launch} {e : Env} {R : Room} {s : State} {m : MethodId} {args : Array Value} {below : List Frame} {meth : Method} {c : Code} {H : Heap} {locs : List Loc} {cells slots : Nat} {Q : State → Prop} {cc : ByteArray} {nL index pc : Nat} {own : String} {ls : Array Slot} {rest : List Value} {D : va_G} {K : Nat → ClassId} {b : Nat → Nat} {w n lap : Nat} {op mu ba la en : Nat → Nat} {pr : Nat → Option Nat} {fr : Bool} {co : Nat → Nat → Nat} {cw cj : Nat → Int64} {cl : Nat} {rv : Int64} {rc : Nat} {pj : Nat → Nat → Nat} {pw ch : Nat → Nat} {pl lc : Nat} {tl : Nat → Nat} {ci : Nat} {z : Int32} (S : CallFix p m c cc nL s args lw_tb own) (hI : PI D K (cW K b w n lap op mu ba la en pr fr co cw cj cl rv rc pj pw ch pl lc tl) s H) (hG : GOK w n lap op mu ba la en pr) (hc : ci < n) (hz : wiI z (nI 0) (nI (w - 1)) = false) (hlink : Cond.methodLink own index yX7_piece ∈ lw_tb) (hR : RO 3 R cells slots) (hsz : ls.size = nL) (hW : (rest.map fun v => v.category).sum ≤ 8) (hdg : decode cc pc = .ok (.invokevirtual index, 3)) (kk : W p l e R s m args below meth c H locs cells slots Q (F0 m (pc + 3) ls (.int ((-2)) :: rest))) : W p l e R s m args below meth c H locs cells slots Q (F0 m pc ls (.int z :: .int (nI ci) :: .ref (b 0) :: rest)) :=
  kV (As := [.int (nI ci), .int z]) (b := b 0) S (mX7_piece_b l hG hc hz) hlink tw_563 tw_564 tw_42 tw_565 (by show _ ∧ _ ∧ _ = some 2; decide +kernel) (by decide) hR blP (piU hI) (va_recv hI.2 hI.1 (ci := 7) (q0 := 0) rfl rfl) hsz rfl hW hdg kk

set_option maxHeartbeats 4000000 in
set_option maxRecDepth 100000 in
theorem mX7_piece_c (l : Launch) {D : va_G} {K : Nat → ClassId} {b : Nat → Nat} {w n lap : Nat} {op mu ba la en : Nat → Nat} {pr : Nat → Option Nat} {fr : Bool} {co : Nat → Nat → Nat} {cw cj : Nat → Int64} {cl : Nat} {rv : Int64} {rc : Nat} {pj : Nat → Nat → Nat} {pw ch : Nat → Nat} {pl lc : Nat} {tl : Nat → Nat} {ci : Nat} {x : Nat} (hG : GOK w n lap op mu ba la en pr) (hc : ci < n) (hx : x < w) (ho : Nat.testBit (op ci) x = true) : Met l yX7_piece (TWd yX7_piece cX7_piece 4 (some .int)) (rmk 3) (va_Pc [.ref (b 0), .int (nI ci), .int (nI x)] (fun U => PI D K (cW K b w n lap op mu ba la en pr fr co cw cj cl rv rc pj pw ch pl lc tl) U U.heap)) (QcRead ((-9))) 0 0 (fun _ => False) := by
  refine mt_of (by decide +kernel) (Nat.le_of_ble_eq_true rfl) ?_
  intro p e s m below meth c S hr hlk hI ls hl
  have S : CallFix p m c cX7_piece 4 s ([.ref (b 0), .int (nI ci), .int (nI x)] : List Value).toArray lw_tb RX7 := S
  have hl : lv_has ls 4 [(0, .ref (b 0)), (1, .int (nI ci)), (2, .int (nI x))] := hl
  obtain ⟨gw1, gw2, gn, gl1, gl2, gop, gmu, gba, gla, gen, gpr, gop2, gmu2, gba2, gla2, gme, gbe, gle, gee⟩ := id hG
  refine lv_aload_n S.1 S.2.1 dX7_piece_0 rfl (lv_at hl 0 rfl) ?_
  refine g7 S hI 0 rfl 0 (by decide) tw_236 rfl dX7_piece_1 ?_
  refine lv_iload_n S.1 S.2.1 dX7_piece_4 rfl (lv_at hl 1 rfl) ?_
  refine kX6_has S hI hG tw_292 (rok (by decide)) hl.1 (Nat.le_of_ble_eq_true rfl) dX7_piece_5 ?_
  refine ly_ifne (tgt := 13) S bI_e2 bI_e1 dX7_piece_8 (by decide) (fun h1 => ?_) (fun h1 => ?_)
  · skip
    refine lv_iload_n S.1 S.2.1 dX7_piece_13 rfl (lv_at hl 2 rfl) ?_
    refine ly_iflt (tgt := 28) S (fun q => (nI_n1 (by omega) q : False)) (fun q => nI_n2 q) dX7_piece_14 (by decide) (fun h2 => ?_) (fun h2 => ?_)
    · skip
      exact h2.elim
    · skip
      refine lv_iload_n S.1 S.2.1 dX7_piece_17 rfl (lv_at hl 2 rfl) ?_
      refine lv_aload_n S.1 S.2.1 dX7_piece_18 rfl (lv_at hl 0 rfl) ?_
      refine g7 S hI 0 rfl 0 (by decide) tw_236 rfl dX7_piece_19 ?_
      refine g6 S hI 1 rfl 3 (by decide) tw_126 rfl dX7_piece_22 ?_
      refine ly_cmlt (tgt := 31) S (nI_l1 (by omega) (by omega)) (nI_l2 (by omega) (by omega)) dX7_piece_25 (by decide) (fun h3 => ?_) (fun h3 => ?_)
      · skip
        refine lv_aload_n S.1 S.2.1 dX7_piece_31 rfl (lv_at hl 0 rfl) ?_
        refine g7 S hI 0 rfl 0 (by decide) tw_236 rfl dX7_piece_32 ?_
        refine lv_iload_n S.1 S.2.1 dX7_piece_35 rfl (lv_at hl 1 rfl) ?_
        refine kX6_at_c S hI (by omega) (by omega) tw_276 (rok (by decide)) hl.1 (Nat.le_of_ble_eq_true rfl) dX7_piece_36 ?_
        refine lv_astore_n (lv' := [(3, .ref (b (19 + ci))), (0, .ref (b 0)), (1, .int (nI ci)), (2, .int (nI x))]) S.1 S.2.1 dX7_piece_39 rfl hl (by decide) rfl (fun ls hl => ?_)
        refine lv_aload_n S.1 S.2.1 dX7_piece_40 rfl (lv_at hl 0 rfl) ?_
        refine lv_iload_n S.1 S.2.1 dX7_piece_41 rfl (lv_at hl 3 rfl) ?_
        refine kX2_isOpen S hI hG (by first | omega | exact bwc_lt (by omega)) (by omega) tw_566 (rok (by decide)) hl.1 (Nat.le_of_ble_eq_true rfl) dX7_piece_42 ?_
        refine ly_top (z := (bI (Nat.testBit (op ci) x))) (by rw [gzl (f := op) (by omega)]) ?_
        refine ly_ifeq (tgt := 53) S bI_e1 bI_e2 dX7_piece_45 (by decide) (fun h4 => ?_) (fun h4 => ?_)
        · skip
          exact absurd h4 (by rw [ho]; decide)
        · skip
          refine lv_bipush (v := (-9)) S.1 S.2.1 dX7_piece_48 (by decide) ?_
          refine lv_goto (tgt := 62) S.1 S.2.1 dX7_piece_50 (by decide) ?_
          exact rt_i S hr hlk rfl dX7_piece_62
      · skip
        exact absurd h3 (by omega)
  · skip
    exact absurd h1 (by rw [wiC (by omega) (by omega)]; decide)
theorem kX7_piece_c {p : Program} {l : Launch} {e : Env} {R : Room} {s : State} {m : MethodId} {args : Array Value} {below : List Frame} {meth : Method} {c : Code} {H : Heap} {locs : List Loc} {cells slots : Nat} {Q : State → Prop} {cc : ByteArray} {nL index pc : Nat} {own : String} {ls : Array Slot} {rest : List Value} {D : va_G} {K : Nat → ClassId} {b : Nat → Nat} {w n lap : Nat} {op mu ba la en : Nat → Nat} {pr : Nat → Option Nat} {fr : Bool} {co : Nat → Nat → Nat} {cw cj : Nat → Int64} {cl : Nat} {rv : Int64} {rc : Nat} {pj : Nat → Nat → Nat} {pw ch : Nat → Nat} {pl lc : Nat} {tl : Nat → Nat} {ci : Nat} {x : Nat} (S : CallFix p m c cc nL s args lw_tb own) (hI : PI D K (cW K b w n lap op mu ba la en pr fr co cw cj cl rv rc pj pw ch pl lc tl) s H) (hG : GOK w n lap op mu ba la en pr) (hc : ci < n) (hx : x < w) (ho : Nat.testBit (op ci) x = true) (hlink : Cond.methodLink own index yX7_piece ∈ lw_tb) (hR : RO 3 R cells slots) (hsz : ls.size = nL) (hW : (rest.map fun v => v.category).sum ≤ 8) (hdg : decode cc pc = .ok (.invokevirtual index, 3)) (kk : W p l e R s m args below meth c H locs cells slots Q (F0 m (pc + 3) ls (.int ((-9)) :: rest))) : W p l e R s m args below meth c H locs cells slots Q (F0 m pc ls (.int (nI x) :: .int (nI ci) :: .ref (b 0) :: rest)) :=
  kV (As := [.int (nI ci), .int (nI x)]) (b := b 0) S (mX7_piece_c l hG hc hx ho) hlink tw_563 tw_564 tw_42 tw_565 (by show _ ∧ _ ∧ _ = some 2; decide +kernel) (by decide) hR blP (piU hI) (va_recv hI.2 hI.1 (ci := 7) (q0 := 0) rfl rfl) hsz rfl hW hdg kk

set_option maxHeartbeats 4000000 in
set_option maxRecDepth 100000 in
theorem mX7_piece_d (l : Launch) {D : va_G} {K : Nat → ClassId} {b : Nat → Nat} {w n lap : Nat} {op mu ba la en : Nat → Nat} {pr : Nat → Option Nat} {fr : Bool} {co : Nat → Nat → Nat} {cw cj : Nat → Int64} {cl : Nat} {rv : Int64} {rc : Nat} {pj : Nat → Nat → Nat} {pw ch : Nat → Nat} {pl lc : Nat} {tl : Nat → Nat} {ci : Nat} {x : Nat} (hG : GOK w n lap op mu ba la en pr) (hc : ci < n) (hx : x < w) (ho : Nat.testBit (op ci) x = false) : Met l yX7_piece (TWd yX7_piece cX7_piece 4 (some .int)) (rmk 3) (va_Pc [.ref (b 0), .int (nI ci), .int (nI x)] (fun U => PI D K (cW K b w n lap op mu ba la en pr fr co cw cj cl rv rc pj pw ch pl lc tl) U U.heap)) (QcRead (nI (lenF w (op ci) (la ci) (foF (op ci) (la ci) x)))) 0 0 (fun _ => False) := by
  refine mt_of (by decide +kernel) (Nat.le_of_ble_eq_true rfl) ?_
  intro p e s m below meth c S hr hlk hI ls hl
  have S : CallFix p m c cX7_piece 4 s ([.ref (b 0), .int (nI ci), .int (nI x)] : List Value).toArray lw_tb RX7 := S
  have hl : lv_has ls 4 [(0, .ref (b 0)), (1, .int (nI ci)), (2, .int (nI x))] := hl
  obtain ⟨gw1, gw2, gn, gl1, gl2, gop, gmu, gba, gla, gen, gpr, gop2, gmu2, gba2, gla2, gme, gbe, gle, gee⟩ := id hG
  refine lv_aload_n S.1 S.2.1 dX7_piece_0 rfl (lv_at hl 0 rfl) ?_
  refine g7 S hI 0 rfl 0 (by decide) tw_236 rfl dX7_piece_1 ?_
  refine lv_iload_n S.1 S.2.1 dX7_piece_4 rfl (lv_at hl 1 rfl) ?_
  refine kX6_has S hI hG tw_292 (rok (by decide)) hl.1 (Nat.le_of_ble_eq_true rfl) dX7_piece_5 ?_
  refine ly_ifne (tgt := 13) S bI_e2 bI_e1 dX7_piece_8 (by decide) (fun h1 => ?_) (fun h1 => ?_)
  · skip
    refine lv_iload_n S.1 S.2.1 dX7_piece_13 rfl (lv_at hl 2 rfl) ?_
    refine ly_iflt (tgt := 28) S (fun q => (nI_n1 (by omega) q : False)) (fun q => nI_n2 q) dX7_piece_14 (by decide) (fun h2 => ?_) (fun h2 => ?_)
    · skip
      exact h2.elim
    · skip
      refine lv_iload_n S.1 S.2.1 dX7_piece_17 rfl (lv_at hl 2 rfl) ?_
      refine lv_aload_n S.1 S.2.1 dX7_piece_18 rfl (lv_at hl 0 rfl) ?_
      refine g7 S hI 0 rfl 0 (by decide) tw_236 rfl dX7_piece_19 ?_
      refine g6 S hI 1 rfl 3 (by decide) tw_126 rfl dX7_piece_22 ?_
      refine ly_cmlt (tgt := 31) S (nI_l1 (by omega) (by omega)) (nI_l2 (by omega) (by omega)) dX7_piece_25 (by decide) (fun h3 => ?_) (fun h3 => ?_)
      · skip
        refine lv_aload_n S.1 S.2.1 dX7_piece_31 rfl (lv_at hl 0 rfl) ?_
        refine g7 S hI 0 rfl 0 (by decide) tw_236 rfl dX7_piece_32 ?_
        refine lv_iload_n S.1 S.2.1 dX7_piece_35 rfl (lv_at hl 1 rfl) ?_
        refine kX6_at_c S hI (by omega) (by omega) tw_276 (rok (by decide)) hl.1 (Nat.le_of_ble_eq_true rfl) dX7_piece_36 ?_
        refine lv_astore_n (lv' := [(3, .ref (b (19 + ci))), (0, .ref (b 0)), (1, .int (nI ci)), (2, .int (nI x))]) S.1 S.2.1 dX7_piece_39 rfl hl (by decide) rfl (fun ls hl => ?_)
        refine lv_aload_n S.1 S.2.1 dX7_piece_40 rfl (lv_at hl 0 rfl) ?_
        refine lv_iload_n S.1 S.2.1 dX7_piece_41 rfl (lv_at hl 3 rfl) ?_
        refine kX2_isOpen S hI hG (by first | omega | exact bwc_lt (by omega)) (by omega) tw_566 (rok (by decide)) hl.1 (Nat.le_of_ble_eq_true rfl) dX7_piece_42 ?_
        refine ly_top (z := (bI (Nat.testBit (op ci) x))) (by rw [gzl (f := op) (by omega)]) ?_
        refine ly_ifeq (tgt := 53) S bI_e1 bI_e2 dX7_piece_45 (by decide) (fun h4 => ?_) (fun h4 => ?_)
        · skip
          refine lv_aload_n S.1 S.2.1 dX7_piece_53 rfl (lv_at hl 1 rfl) ?_
          refine g7 S hI 0 rfl 0 (by decide) tw_236 rfl dX7_piece_54 ?_
          refine lv_aload_n S.1 S.2.1 dX7_piece_57 rfl (lv_at hl 0 rfl) ?_
          refine lv_iload_n S.1 S.2.1 dX7_piece_58 rfl (lv_at hl 3 rfl) ?_
          refine kX6_lengthAround S hI hG (by omega) (by omega) ho tw_567 (rok (by decide)) hl.1 (Nat.le_of_ble_eq_true rfl) dX7_piece_59 ?_
          exact rt_i S hr hlk rfl dX7_piece_62
        · skip
          exact absurd h4 (by rw [ho]; decide)
      · skip
        exact absurd h3 (by omega)
  · skip
    exact absurd h1 (by rw [wiC (by omega) (by omega)]; decide)
theorem kX7_piece_d {p : Program} {l : Launch} {e : Env} {R : Room} {s : State} {m : MethodId} {args : Array Value} {below : List Frame} {meth : Method} {c : Code} {H : Heap} {locs : List Loc} {cells slots : Nat} {Q : State → Prop} {cc : ByteArray} {nL index pc : Nat} {own : String} {ls : Array Slot} {rest : List Value} {D : va_G} {K : Nat → ClassId} {b : Nat → Nat} {w n lap : Nat} {op mu ba la en : Nat → Nat} {pr : Nat → Option Nat} {fr : Bool} {co : Nat → Nat → Nat} {cw cj : Nat → Int64} {cl : Nat} {rv : Int64} {rc : Nat} {pj : Nat → Nat → Nat} {pw ch : Nat → Nat} {pl lc : Nat} {tl : Nat → Nat} {ci : Nat} {x : Nat} (S : CallFix p m c cc nL s args lw_tb own) (hI : PI D K (cW K b w n lap op mu ba la en pr fr co cw cj cl rv rc pj pw ch pl lc tl) s H) (hG : GOK w n lap op mu ba la en pr) (hc : ci < n) (hx : x < w) (ho : Nat.testBit (op ci) x = false) (hlink : Cond.methodLink own index yX7_piece ∈ lw_tb) (hR : RO 3 R cells slots) (hsz : ls.size = nL) (hW : (rest.map fun v => v.category).sum ≤ 8) (hdg : decode cc pc = .ok (.invokevirtual index, 3)) (kk : W p l e R s m args below meth c H locs cells slots Q (F0 m (pc + 3) ls (.int (nI (lenF w (op ci) (la ci) (foF (op ci) (la ci) x))) :: rest))) : W p l e R s m args below meth c H locs cells slots Q (F0 m pc ls (.int (nI x) :: .int (nI ci) :: .ref (b 0) :: rest)) :=
  kV (As := [.int (nI ci), .int (nI x)]) (b := b 0) S (mX7_piece_d l hG hc hx ho) hlink tw_563 tw_564 tw_42 tw_565 (by show _ ∧ _ ∧ _ = some 2; decide +kernel) (by decide) hR blP (piU hI) (va_recv hI.2 hI.1 (ci := 7) (q0 := 0) rfl rfl) hsz rfl hW hdg kk

set_option maxHeartbeats 4000000 in
set_option maxRecDepth 100000 in
theorem mX7_cut (l : Launch) {D : va_G} {K : Nat → ClassId} {b : Nat → Nat} {w n lap : Nat} {op mu ba la en : Nat → Nat} {pr : Nat → Option Nat} {fr : Bool} {co : Nat → Nat → Nat} {cw cj : Nat → Int64} {cl : Nat} {rv : Int64} {rc : Nat} {pj : Nat → Nat → Nat} {pw ch : Nat → Nat} {pl lc : Nat} {tl : Nat → Nat} (hDis : Dis b 44) (hG : GOK w n lap op mu ba la en pr) (hVO : VOK w n op mu ba en pr fr co cl rv rc pj pw ch pl lc tl) : Met l yX7_cut (TWd yX7_cut cX7_cut 1 (some .int)) (rmk 4) (va_Pc [.ref (b 0)] (fun U => PI D K (cW K b w n lap op mu ba la en pr fr co cw cj cl rv rc pj pw ch pl lc tl) U U.heap)) (QX D K (fun u : CSc => some (.int (nI (ctF (sumN (fun q => pcF w (op q) (la q) 1) n) (sumN (fun q => pcF w (op q) (la q) 2) n) (sumN (fun q => pcF w (op q) (la q) 3) n) (sumN (fun q => pcF w (op q) (la q) 4) n))))) (fun u => (cW K b w n lap op mu ba la en pr u.1 u.2.1 u.2.2.1 u.2.2.2.1 u.2.2.2.2.1 u.2.2.2.2.2.1 u.2.2.2.2.2.2.1 u.2.2.2.2.2.2.2.1 u.2.2.2.2.2.2.2.2.1 u.2.2.2.2.2.2.2.2.2.1 u.2.2.2.2.2.2.2.2.2.2.1 u.2.2.2.2.2.2.2.2.2.2.2.1 u.2.2.2.2.2.2.2.2.2.2.2.2)) (fun u => VOKu w n op mu ba en pr u) (adA b 44)) 0 0 (adA b 44) := by
  refine mt_of (by decide +kernel) (Nat.le_of_ble_eq_true rfl) ?_
  intro p e s m below meth c S hr hlk hI ls hl
  have S : CallFix p m c cX7_cut 1 s ([.ref (b 0)] : List Value).toArray lw_tb RX7 := S
  have hl : lv_has ls 1 [(0, .ref (b 0))] := hl
  have hS : va_S (adA b 44) s.heap s.heap [] := va_S.rf
  obtain ⟨gw1, gw2, gn, gl1, gl2, gop, gmu, gba, gla, gen, gpr, gop2, gmu2, gba2, gla2, gme, gbe, gle, gee⟩ := id hG
  obtain ⟨v1, v2, v3, v4, v5, v6, v7, v8, v9, v10, v11⟩ := id hVO
  refine lv_aload_n S.1 S.2.1 dX7_cut_0 rfl (lv_at hl 0 rfl) ?_
  refine kX7_tallyLaid S hI hS hDis hG v11 tw_549 (rok (by decide)) hl.1 (Nat.le_of_ble_eq_true rfl) dX7_cut_1 (fun u1 H locs hu1 hI hS _ _ => ?_)
  refine lv_aload_n S.1 S.2.1 dX7_cut_4 rfl (lv_at hl 0 rfl) ?_
  refine g7 S hI 0 rfl 4 (by decide) tw_240 rfl dX7_cut_5 ?_
  refine kX5_wholeBricks S hI hG (tyS_le gw2 gn v11) tw_575 (rok (by decide)) hl.1 (Nat.le_of_ble_eq_true rfl) dX7_cut_8 ?_
  exact rw_i S hr hlk (fr, co, cw, cj, cl, rv, rc, pj, pw, ch, pl, lc, tyS tl op la w n) (by rw [tyS_e (by omega), tyS_e (by omega), tyS_e (by omega), tyS_e (by omega)]) ⟨v1, v2, v3, v4, v5, v6, v7, v8, v9, v10, tyS_le gw2 gn v11⟩ hI hS dX7_cut_11
theorem kX7_cut {p : Program} {l : Launch} {e : Env} {R : Room} {s : State} {m : MethodId} {args : Array Value} {below : List Frame} {meth : Method} {c : Code} {H H0 : Heap} {locs : List Loc} {cells slots : Nat} {Q : State → Prop} {cc : ByteArray} {nL index pc : Nat} {own : String} {ls : Array Slot} {rest : List Value} {D : va_G} {K : Nat → ClassId} {b : Nat → Nat} {w n lap : Nat} {op mu ba la en : Nat → Nat} {pr : Nat → Option Nat} {fr : Bool} {co : Nat → Nat → Nat} {cw cj : Nat → Int64} {cl : Nat} {rv : Int64} {rc : Nat} {pj : Nat → Nat → Nat} {pw ch : Nat → Nat} {pl lc : Nat} {tl : Nat → Nat} (S : CallFix p m c cc nL s args lw_tb own) (hI : PI D K (cW K b w n lap op mu ba la en pr fr co cw cj cl rv rc pj pw ch pl lc tl) s H) (hS : va_S (adA b 44) H0 H locs) (hDis : Dis b 44) (hG : GOK w n lap op mu ba la en pr) (hVO : VOK w n op mu ba en pr fr co cl rv rc pj pw ch pl lc tl) (hlink : Cond.methodLink own index yX7_cut ∈ lw_tb) (hR : RO 4 R cells slots) (hsz : ls.size = nL) (hW : (rest.map fun v => v.category).sum ≤ 8) (hdg : decode cc pc = .ok (.invokevirtual index, 3)) (kk : ∀ (u : CSc) (H1 : Heap) (locs1 : List Loc), (VOKu w n op mu ba en pr u) → PI D K (cW K b w n lap op mu ba la en pr u.1 u.2.1 u.2.2.1 u.2.2.2.1 u.2.2.2.2.1 u.2.2.2.2.2.1 u.2.2.2.2.2.2.1 u.2.2.2.2.2.2.2.1 u.2.2.2.2.2.2.2.2.1 u.2.2.2.2.2.2.2.2.2.1 u.2.2.2.2.2.2.2.2.2.2.1 u.2.2.2.2.2.2.2.2.2.2.2.1 u.2.2.2.2.2.2.2.2.2.2.2.2) s H1 → va_S (adA b 44) H0 H1 locs1 → H.size ≤ H1.size → (∀ q : Nat, q < H.size → ¬ (adA b 44) q → H1[q]? = H[q]?) → W p l e R s m args below meth c H1 locs1 cells slots Q (F0 m (pc + 3) ls ((.int (nI (ctF (sumN (fun q => pcF w (op q) (la q) 1) n) (sumN (fun q => pcF w (op q) (la q) 2) n) (sumN (fun q => pcF w (op q) (la q) 3) n) (sumN (fun q => pcF w (op q) (la q) 4) n)))) :: rest))) : W p l e R s m args below meth c H locs cells slots Q (F0 m pc ls (.ref (b 0) :: rest)) :=
  kVX (As := []) (b := b 0) S (mX7_cut l hDis hG hVO) hlink tw_572 tw_573 tw_42 tw_574 (by show _ ∧ _ ∧ _ = some 0; decide +kernel) (by decide) hR blP (piU hI) (va_recv hI.2 hI.1 (ci := 7) (q0 := 0) rfl rfl) hS (fun _ h => h) hsz rfl hW hdg kk

set_option maxHeartbeats 4000000 in
set_option maxRecDepth 100000 in
theorem mX7_many_b (l : Launch) {D : va_G} {K : Nat → ClassId} {b : Nat → Nat} {w n lap : Nat} {op mu ba la en : Nat → Nat} {pr : Nat → Option Nat} {fr : Bool} {co : Nat → Nat → Nat} {cw cj : Nat → Int64} {cl : Nat} {rv : Int64} {rc : Nat} {pj : Nat → Nat → Nat} {pw ch : Nat → Nat} {pl lc : Nat} {tl : Nat → Nat} {wh : Int32} (hG : GOK w n lap op mu ba la en pr) (hw : wh.toInt < 0 ∨ 5 < wh.toInt) : Met l yX7_many (TWd yX7_many cX7_many 2 (some .int)) (rmk 4) (va_Pc [.ref (b 0), .int wh] (fun U => PI D K (cW K b w n lap op mu ba la en pr fr co cw cj cl rv rc pj pw ch pl lc tl) U U.heap)) (QcRead ((-2))) 0 0 (fun _ => False) := by
  refine mt_of (by decide +kernel) (Nat.le_of_ble_eq_true rfl) ?_
  intro p e s m below meth c S hr hlk hI ls hl
  have S : CallFix p m c cX7_many 2 s ([.ref (b 0), .int wh] : List Value).toArray lw_tb RX7 := S
  have hl : lv_has ls 2 [(0, .ref (b 0)), (1, .int wh)] := hl
  obtain ⟨gw1, gw2, gn, gl1, gl2, gop, gmu, gba, gla, gen, gpr, gop2, gmu2, gba2, gla2, gme, gbe, gle, gee⟩ := id hG
  refine lv_iload_n S.1 S.2.1 dX7_many_0 rfl (lv_at hl 1 rfl) ?_
  refine lv_tableOut (tgt := 86) S.1 S.2.1 dX7_many_1 hw (by decide) ?_
  refine lv_bipush (v := (-2)) S.1 S.2.1 dX7_many_86 (by decide) ?_
  exact rt_i S hr hlk rfl dX7_many_88
theorem kX7_many_b {p : Program} {l : Launch} {e : Env} {R : Room} {s : State} {m : MethodId} {args : Array Value} {below : List Frame} {meth : Method} {c : Code} {H : Heap} {locs : List Loc} {cells slots : Nat} {Q : State → Prop} {cc : ByteArray} {nL index pc : Nat} {own : String} {ls : Array Slot} {rest : List Value} {D : va_G} {K : Nat → ClassId} {b : Nat → Nat} {w n lap : Nat} {op mu ba la en : Nat → Nat} {pr : Nat → Option Nat} {fr : Bool} {co : Nat → Nat → Nat} {cw cj : Nat → Int64} {cl : Nat} {rv : Int64} {rc : Nat} {pj : Nat → Nat → Nat} {pw ch : Nat → Nat} {pl lc : Nat} {tl : Nat → Nat} {wh : Int32} (S : CallFix p m c cc nL s args lw_tb own) (hI : PI D K (cW K b w n lap op mu ba la en pr fr co cw cj cl rv rc pj pw ch pl lc tl) s H) (hG : GOK w n lap op mu ba la en pr) (hw : wh.toInt < 0 ∨ 5 < wh.toInt) (hlink : Cond.methodLink own index yX7_many ∈ lw_tb) (hR : RO 4 R cells slots) (hsz : ls.size = nL) (hW : (rest.map fun v => v.category).sum ≤ 8) (hdg : decode cc pc = .ok (.invokevirtual index, 3)) (kk : W p l e R s m args below meth c H locs cells slots Q (F0 m (pc + 3) ls (.int ((-2)) :: rest))) : W p l e R s m args below meth c H locs cells slots Q (F0 m pc ls (.int wh :: .ref (b 0) :: rest)) :=
  kV (As := [.int wh]) (b := b 0) S (mX7_many_b l hG hw) hlink tw_584 tw_585 tw_42 tw_586 (by show _ ∧ _ ∧ _ = some 1; decide +kernel) (by decide) hR blP (piU hI) (va_recv hI.2 hI.1 (ci := 7) (q0 := 0) rfl rfl) hsz rfl hW hdg kk

set_option maxHeartbeats 4000000 in
set_option maxRecDepth 100000 in
theorem mX7_many_0 (l : Launch) {D : va_G} {K : Nat → ClassId} {b : Nat → Nat} {w n lap : Nat} {op mu ba la en : Nat → Nat} {pr : Nat → Option Nat} {fr : Bool} {co : Nat → Nat → Nat} {cw cj : Nat → Int64} {cl : Nat} {rv : Int64} {rc : Nat} {pj : Nat → Nat → Nat} {pw ch : Nat → Nat} {pl lc : Nat} {tl : Nat → Nat} (hG : GOK w n lap op mu ba la en pr) : Met l yX7_many (TWd yX7_many cX7_many 2 (some .int)) (rmk 4) (va_Pc [.ref (b 0), .int (nI 0)] (fun U => PI D K (cW K b w n lap op mu ba la en pr fr co cw cj cl rv rc pj pw ch pl lc tl) U U.heap)) (QcRead (nI n)) 0 0 (fun _ => False) := by
  refine mt_of (by decide +kernel) (Nat.le_of_ble_eq_true rfl) ?_
  intro p e s m below meth c S hr hlk hI ls hl
  have S : CallFix p m c cX7_many 2 s ([.ref (b 0), .int (nI 0)] : List Value).toArray lw_tb RX7 := S
  have hl : lv_has ls 2 [(0, .ref (b 0)), (1, .int (nI 0))] := hl
  obtain ⟨gw1, gw2, gn, gl1, gl2, gop, gmu, gba, gla, gen, gpr, gop2, gmu2, gba2, gla2, gme, gbe, gle, gee⟩ := id hG
  refine lv_iload_n S.1 S.2.1 dX7_many_0 rfl (lv_at hl 1 rfl) ?_
  refine lv_tableIn (tgt := 40) (off := 39) S.1 S.2.1 dX7_many_1 (by decide) (by decide) (by decide) (by decide) ?_
  refine lv_aload_n S.1 S.2.1 dX7_many_40 rfl (lv_at hl 0 rfl) ?_
  refine g7 S hI 0 rfl 0 (by decide) tw_236 rfl dX7_many_41 ?_
  refine g6 S hI 1 rfl 4 (by decide) tw_129 rfl dX7_many_44 ?_
  exact rt_i S hr hlk rfl dX7_many_47
theorem kX7_many_0 {p : Program} {l : Launch} {e : Env} {R : Room} {s : State} {m : MethodId} {args : Array Value} {below : List Frame} {meth : Method} {c : Code} {H : Heap} {locs : List Loc} {cells slots : Nat} {Q : State → Prop} {cc : ByteArray} {nL index pc : Nat} {own : String} {ls : Array Slot} {rest : List Value} {D : va_G} {K : Nat → ClassId} {b : Nat → Nat} {w n lap : Nat} {op mu ba la en : Nat → Nat} {pr : Nat → Option Nat} {fr : Bool} {co : Nat → Nat → Nat} {cw cj : Nat → Int64} {cl : Nat} {rv : Int64} {rc : Nat} {pj : Nat → Nat → Nat} {pw ch : Nat → Nat} {pl lc : Nat} {tl : Nat → Nat} (S : CallFix p m c cc nL s args lw_tb own) (hI : PI D K (cW K b w n lap op mu ba la en pr fr co cw cj cl rv rc pj pw ch pl lc tl) s H) (hG : GOK w n lap op mu ba la en pr) (hlink : Cond.methodLink own index yX7_many ∈ lw_tb) (hR : RO 4 R cells slots) (hsz : ls.size = nL) (hW : (rest.map fun v => v.category).sum ≤ 8) (hdg : decode cc pc = .ok (.invokevirtual index, 3)) (kk : W p l e R s m args below meth c H locs cells slots Q (F0 m (pc + 3) ls (.int (nI n) :: rest))) : W p l e R s m args below meth c H locs cells slots Q (F0 m pc ls (.int (nI 0) :: .ref (b 0) :: rest)) :=
  kV (As := [.int (nI 0)]) (b := b 0) S (mX7_many_0 l hG) hlink tw_584 tw_585 tw_42 tw_586 (by show _ ∧ _ ∧ _ = some 1; decide +kernel) (by decide) hR blP (piU hI) (va_recv hI.2 hI.1 (ci := 7) (q0 := 0) rfl rfl) hsz rfl hW hdg kk

set_option maxHeartbeats 4000000 in
set_option maxRecDepth 100000 in
theorem mX7_many_1 (l : Launch) {D : va_G} {K : Nat → ClassId} {b : Nat → Nat} {w n lap : Nat} {op mu ba la en : Nat → Nat} {pr : Nat → Option Nat} {fr : Bool} {co : Nat → Nat → Nat} {cw cj : Nat → Int64} {cl : Nat} {rv : Int64} {rc : Nat} {pj : Nat → Nat → Nat} {pw ch : Nat → Nat} {pl lc : Nat} {tl : Nat → Nat} (hG : GOK w n lap op mu ba la en pr) : Met l yX7_many (TWd yX7_many cX7_many 2 (some .int)) (rmk 4) (va_Pc [.ref (b 0), .int (nI 1)] (fun U => PI D K (cW K b w n lap op mu ba la en pr fr co cw cj cl rv rc pj pw ch pl lc tl) U U.heap)) (QcRead (nI w)) 0 0 (fun _ => False) := by
  refine mt_of (by decide +kernel) (Nat.le_of_ble_eq_true rfl) ?_
  intro p e s m below meth c S hr hlk hI ls hl
  have S : CallFix p m c cX7_many 2 s ([.ref (b 0), .int (nI 1)] : List Value).toArray lw_tb RX7 := S
  have hl : lv_has ls 2 [(0, .ref (b 0)), (1, .int (nI 1))] := hl
  obtain ⟨gw1, gw2, gn, gl1, gl2, gop, gmu, gba, gla, gen, gpr, gop2, gmu2, gba2, gla2, gme, gbe, gle, gee⟩ := id hG
  refine lv_iload_n S.1 S.2.1 dX7_many_0 rfl (lv_at hl 1 rfl) ?_
  refine lv_tableIn (tgt := 48) (off := 47) S.1 S.2.1 dX7_many_1 (by decide) (by decide) (by decide) (by decide) ?_
  refine lv_aload_n S.1 S.2.1 dX7_many_48 rfl (lv_at hl 0 rfl) ?_
  refine g7 S hI 0 rfl 0 (by decide) tw_236 rfl dX7_many_49 ?_
  refine g6 S hI 1 rfl 3 (by decide) tw_126 rfl dX7_many_52 ?_
  exact rt_i S hr hlk rfl dX7_many_55
theorem kX7_many_1 {p : Program} {l : Launch} {e : Env} {R : Room} {s : State} {m : MethodId} {args : Array Value} {below : List Frame} {meth : Method} {c : Code} {H : Heap} {locs : List Loc} {cells slots : Nat} {Q : State → Prop} {cc : ByteArray} {nL index pc : Nat} {own : String} {ls : Array Slot} {rest : List Value} {D : va_G} {K : Nat → ClassId} {b : Nat → Nat} {w n lap : Nat} {op mu ba la en : Nat → Nat} {pr : Nat → Option Nat} {fr : Bool} {co : Nat → Nat → Nat} {cw cj : Nat → Int64} {cl : Nat} {rv : Int64} {rc : Nat} {pj : Nat → Nat → Nat} {pw ch : Nat → Nat} {pl lc : Nat} {tl : Nat → Nat} (S : CallFix p m c cc nL s args lw_tb own) (hI : PI D K (cW K b w n lap op mu ba la en pr fr co cw cj cl rv rc pj pw ch pl lc tl) s H) (hG : GOK w n lap op mu ba la en pr) (hlink : Cond.methodLink own index yX7_many ∈ lw_tb) (hR : RO 4 R cells slots) (hsz : ls.size = nL) (hW : (rest.map fun v => v.category).sum ≤ 8) (hdg : decode cc pc = .ok (.invokevirtual index, 3)) (kk : W p l e R s m args below meth c H locs cells slots Q (F0 m (pc + 3) ls (.int (nI w) :: rest))) : W p l e R s m args below meth c H locs cells slots Q (F0 m pc ls (.int (nI 1) :: .ref (b 0) :: rest)) :=
  kV (As := [.int (nI 1)]) (b := b 0) S (mX7_many_1 l hG) hlink tw_584 tw_585 tw_42 tw_586 (by show _ ∧ _ ∧ _ = some 1; decide +kernel) (by decide) hR blP (piU hI) (va_recv hI.2 hI.1 (ci := 7) (q0 := 0) rfl rfl) hsz rfl hW hdg kk

set_option maxHeartbeats 4000000 in
set_option maxRecDepth 100000 in
theorem mX7_many_2 (l : Launch) {D : va_G} {K : Nat → ClassId} {b : Nat → Nat} {w n lap : Nat} {op mu ba la en : Nat → Nat} {pr : Nat → Option Nat} {fr : Bool} {co : Nat → Nat → Nat} {cw cj : Nat → Int64} {cl : Nat} {rv : Int64} {rc : Nat} {pj : Nat → Nat → Nat} {pw ch : Nat → Nat} {pl lc : Nat} {tl : Nat → Nat} (hG : GOK w n lap op mu ba la en pr) : Met l yX7_many (TWd yX7_many cX7_many 2 (some .int)) (rmk 4) (va_Pc [.ref (b 0), .int (nI 2)] (fun U => PI D K (cW K b w n lap op mu ba la en pr fr co cw cj cl rv rc pj pw ch pl lc tl) U U.heap)) (QcRead (nI lap)) 0 0 (fun _ => False) := by
  refine mt_of (by decide +kernel) (Nat.le_of_ble_eq_true rfl) ?_
  intro p e s m below meth c S hr hlk hI ls hl
  have S : CallFix p m c cX7_many 2 s ([.ref (b 0), .int (nI 2)] : List Value).toArray lw_tb RX7 := S
  have hl : lv_has ls 2 [(0, .ref (b 0)), (1, .int (nI 2))] := hl
  obtain ⟨gw1, gw2, gn, gl1, gl2, gop, gmu, gba, gla, gen, gpr, gop2, gmu2, gba2, gla2, gme, gbe, gle, gee⟩ := id hG
  refine lv_iload_n S.1 S.2.1 dX7_many_0 rfl (lv_at hl 1 rfl) ?_
  refine lv_tableIn (tgt := 56) (off := 55) S.1 S.2.1 dX7_many_1 (by decide) (by decide) (by decide) (by decide) ?_
  refine lv_aload_n S.1 S.2.1 dX7_many_56 rfl (lv_at hl 0 rfl) ?_
  refine g7 S hI 0 rfl 0 (by decide) tw_236 rfl dX7_many_57 ?_
  refine g6 S hI 1 rfl 5 (by decide) tw_134 rfl dX7_many_60 ?_
  exact rt_i S hr hlk rfl dX7_many_63
theorem kX7_many_2 {p : Program} {l : Launch} {e : Env} {R : Room} {s : State} {m : MethodId} {args : Array Value} {below : List Frame} {meth : Method} {c : Code} {H : Heap} {locs : List Loc} {cells slots : Nat} {Q : State → Prop} {cc : ByteArray} {nL index pc : Nat} {own : String} {ls : Array Slot} {rest : List Value} {D : va_G} {K : Nat → ClassId} {b : Nat → Nat} {w n lap : Nat} {op mu ba la en : Nat → Nat} {pr : Nat → Option Nat} {fr : Bool} {co : Nat → Nat → Nat} {cw cj : Nat → Int64} {cl : Nat} {rv : Int64} {rc : Nat} {pj : Nat → Nat → Nat} {pw ch : Nat → Nat} {pl lc : Nat} {tl : Nat → Nat} (S : CallFix p m c cc nL s args lw_tb own) (hI : PI D K (cW K b w n lap op mu ba la en pr fr co cw cj cl rv rc pj pw ch pl lc tl) s H) (hG : GOK w n lap op mu ba la en pr) (hlink : Cond.methodLink own index yX7_many ∈ lw_tb) (hR : RO 4 R cells slots) (hsz : ls.size = nL) (hW : (rest.map fun v => v.category).sum ≤ 8) (hdg : decode cc pc = .ok (.invokevirtual index, 3)) (kk : W p l e R s m args below meth c H locs cells slots Q (F0 m (pc + 3) ls (.int (nI lap) :: rest))) : W p l e R s m args below meth c H locs cells slots Q (F0 m pc ls (.int (nI 2) :: .ref (b 0) :: rest)) :=
  kV (As := [.int (nI 2)]) (b := b 0) S (mX7_many_2 l hG) hlink tw_584 tw_585 tw_42 tw_586 (by show _ ∧ _ ∧ _ = some 1; decide +kernel) (by decide) hR blP (piU hI) (va_recv hI.2 hI.1 (ci := 7) (q0 := 0) rfl rfl) hsz rfl hW hdg kk

set_option maxHeartbeats 4000000 in
set_option maxRecDepth 100000 in
theorem mX7_many_3 (l : Launch) {D : va_G} {K : Nat → ClassId} {b : Nat → Nat} {w n lap : Nat} {op mu ba la en : Nat → Nat} {pr : Nat → Option Nat} {fr : Bool} {co : Nat → Nat → Nat} {cw cj : Nat → Int64} {cl : Nat} {rv : Int64} {rc : Nat} {pj : Nat → Nat → Nat} {pw ch : Nat → Nat} {pl lc : Nat} {tl : Nat → Nat} (hG : GOK w n lap op mu ba la en pr) : Met l yX7_many (TWd yX7_many cX7_many 2 (some .int)) (rmk 4) (va_Pc [.ref (b 0), .int (nI 3)] (fun U => PI D K (cW K b w n lap op mu ba la en pr fr co cw cj cl rv rc pj pw ch pl lc tl) U U.heap)) (QcRead (nI (sumN (fun q => popG 31 (op q)) n))) 0 0 (fun _ => False) := by
  refine mt_of (by decide +kernel) (Nat.le_of_ble_eq_true rfl) ?_
  intro p e s m below meth c S hr hlk hI ls hl
  have S : CallFix p m c cX7_many 2 s ([.ref (b 0), .int (nI 3)] : List Value).toArray lw_tb RX7 := S
  have hl : lv_has ls 2 [(0, .ref (b 0)), (1, .int (nI 3))] := hl
  obtain ⟨gw1, gw2, gn, gl1, gl2, gop, gmu, gba, gla, gen, gpr, gop2, gmu2, gba2, gla2, gme, gbe, gle, gee⟩ := id hG
  refine lv_iload_n S.1 S.2.1 dX7_many_0 rfl (lv_at hl 1 rfl) ?_
  refine lv_tableIn (tgt := 64) (off := 63) S.1 S.2.1 dX7_many_1 (by decide) (by decide) (by decide) (by decide) ?_
  refine lv_aload_n S.1 S.2.1 dX7_many_64 rfl (lv_at hl 0 rfl) ?_
  refine kX7_openCells S hI hG tw_587 (rok (by decide)) hl.1 (Nat.le_of_ble_eq_true rfl) dX7_many_65 ?_
  exact rt_i S hr hlk rfl dX7_many_68
theorem kX7_many_3 {p : Program} {l : Launch} {e : Env} {R : Room} {s : State} {m : MethodId} {args : Array Value} {below : List Frame} {meth : Method} {c : Code} {H : Heap} {locs : List Loc} {cells slots : Nat} {Q : State → Prop} {cc : ByteArray} {nL index pc : Nat} {own : String} {ls : Array Slot} {rest : List Value} {D : va_G} {K : Nat → ClassId} {b : Nat → Nat} {w n lap : Nat} {op mu ba la en : Nat → Nat} {pr : Nat → Option Nat} {fr : Bool} {co : Nat → Nat → Nat} {cw cj : Nat → Int64} {cl : Nat} {rv : Int64} {rc : Nat} {pj : Nat → Nat → Nat} {pw ch : Nat → Nat} {pl lc : Nat} {tl : Nat → Nat} (S : CallFix p m c cc nL s args lw_tb own) (hI : PI D K (cW K b w n lap op mu ba la en pr fr co cw cj cl rv rc pj pw ch pl lc tl) s H) (hG : GOK w n lap op mu ba la en pr) (hlink : Cond.methodLink own index yX7_many ∈ lw_tb) (hR : RO 4 R cells slots) (hsz : ls.size = nL) (hW : (rest.map fun v => v.category).sum ≤ 8) (hdg : decode cc pc = .ok (.invokevirtual index, 3)) (kk : W p l e R s m args below meth c H locs cells slots Q (F0 m (pc + 3) ls (.int (nI (sumN (fun q => popG 31 (op q)) n)) :: rest))) : W p l e R s m args below meth c H locs cells slots Q (F0 m pc ls (.int (nI 3) :: .ref (b 0) :: rest)) :=
  kV (As := [.int (nI 3)]) (b := b 0) S (mX7_many_3 l hG) hlink tw_584 tw_585 tw_42 tw_586 (by show _ ∧ _ ∧ _ = some 1; decide +kernel) (by decide) hR blP (piU hI) (va_recv hI.2 hI.1 (ci := 7) (q0 := 0) rfl rfl) hsz rfl hW hdg kk

set_option maxHeartbeats 4000000 in
set_option maxRecDepth 100000 in
theorem mX7_many_5 (l : Launch) {D : va_G} {K : Nat → ClassId} {b : Nat → Nat} {w n lap : Nat} {op mu ba la en : Nat → Nat} {pr : Nat → Option Nat} {fr : Bool} {co : Nat → Nat → Nat} {cw cj : Nat → Int64} {cl : Nat} {rv : Int64} {rc : Nat} {pj : Nat → Nat → Nat} {pw ch : Nat → Nat} {pl lc : Nat} {tl : Nat → Nat} (hG : GOK w n lap op mu ba la en pr) : Met l yX7_many (TWd yX7_many cX7_many 2 (some .int)) (rmk 4) (va_Pc [.ref (b 0), .int (nI 5)] (fun U => PI D K (cW K b w n lap op mu ba la en pr fr co cw cj cl rv rc pj pw ch pl lc tl) U U.heap)) (QcRead (nI (sumN (fun q => popG 31 (la q)) n))) 0 0 (fun _ => False) := by
  refine mt_of (by decide +kernel) (Nat.le_of_ble_eq_true rfl) ?_
  intro p e s m below meth c S hr hlk hI ls hl
  have S : CallFix p m c cX7_many 2 s ([.ref (b 0), .int (nI 5)] : List Value).toArray lw_tb RX7 := S
  have hl : lv_has ls 2 [(0, .ref (b 0)), (1, .int (nI 5))] := hl
  obtain ⟨gw1, gw2, gn, gl1, gl2, gop, gmu, gba, gla, gen, gpr, gop2, gmu2, gba2, gla2, gme, gbe, gle, gee⟩ := id hG
  refine lv_iload_n S.1 S.2.1 dX7_many_0 rfl (lv_at hl 1 rfl) ?_
  refine lv_tableIn (tgt := 81) (off := 80) S.1 S.2.1 dX7_many_1 (by decide) (by decide) (by decide) (by decide) ?_
  refine lv_aload_n S.1 S.2.1 dX7_many_81 rfl (lv_at hl 0 rfl) ?_
  refine kX7_laidJoints S hI hG tw_597 (rok (by decide)) hl.1 (Nat.le_of_ble_eq_true rfl) dX7_many_82 ?_
  exact rt_i S hr hlk rfl dX7_many_85
theorem kX7_many_5 {p : Program} {l : Launch} {e : Env} {R : Room} {s : State} {m : MethodId} {args : Array Value} {below : List Frame} {meth : Method} {c : Code} {H : Heap} {locs : List Loc} {cells slots : Nat} {Q : State → Prop} {cc : ByteArray} {nL index pc : Nat} {own : String} {ls : Array Slot} {rest : List Value} {D : va_G} {K : Nat → ClassId} {b : Nat → Nat} {w n lap : Nat} {op mu ba la en : Nat → Nat} {pr : Nat → Option Nat} {fr : Bool} {co : Nat → Nat → Nat} {cw cj : Nat → Int64} {cl : Nat} {rv : Int64} {rc : Nat} {pj : Nat → Nat → Nat} {pw ch : Nat → Nat} {pl lc : Nat} {tl : Nat → Nat} (S : CallFix p m c cc nL s args lw_tb own) (hI : PI D K (cW K b w n lap op mu ba la en pr fr co cw cj cl rv rc pj pw ch pl lc tl) s H) (hG : GOK w n lap op mu ba la en pr) (hlink : Cond.methodLink own index yX7_many ∈ lw_tb) (hR : RO 4 R cells slots) (hsz : ls.size = nL) (hW : (rest.map fun v => v.category).sum ≤ 8) (hdg : decode cc pc = .ok (.invokevirtual index, 3)) (kk : W p l e R s m args below meth c H locs cells slots Q (F0 m (pc + 3) ls (.int (nI (sumN (fun q => popG 31 (la q)) n)) :: rest))) : W p l e R s m args below meth c H locs cells slots Q (F0 m pc ls (.int (nI 5) :: .ref (b 0) :: rest)) :=
  kV (As := [.int (nI 5)]) (b := b 0) S (mX7_many_5 l hG) hlink tw_584 tw_585 tw_42 tw_586 (by show _ ∧ _ ∧ _ = some 1; decide +kernel) (by decide) hR blP (piU hI) (va_recv hI.2 hI.1 (ci := 7) (q0 := 0) rfl rfl) hsz rfl hW hdg kk

set_option maxHeartbeats 4000000 in
set_option maxRecDepth 100000 in
theorem mX7_many_4 (l : Launch) {D : va_G} {K : Nat → ClassId} {b : Nat → Nat} {w n lap : Nat} {op mu ba la en : Nat → Nat} {pr : Nat → Option Nat} {fr : Bool} {co : Nat → Nat → Nat} {cw cj : Nat → Int64} {cl : Nat} {rv : Int64} {rc : Nat} {pj : Nat → Nat → Nat} {pw ch : Nat → Nat} {pl lc : Nat} {tl : Nat → Nat} (hDis : Dis b 44) (hG : GOK w n lap op mu ba la en pr) (hVO : VOK w n op mu ba en pr fr co cl rv rc pj pw ch pl lc tl) : Met l yX7_many (TWd yX7_many cX7_many 2 (some .int)) (rmk 4) (va_Pc [.ref (b 0), .int (nI 4)] (fun U => PI D K (cW K b w n lap op mu ba la en pr fr co cw cj cl rv rc pj pw ch pl lc tl) U U.heap)) (QX D K (fun u : CSc => some (.int (nI (sumN (fun q => sumN (fun z => pcF w (op z) (la z) (q + 1)) n) 10)))) (fun u => (cW K b w n lap op mu ba la en pr u.1 u.2.1 u.2.2.1 u.2.2.2.1 u.2.2.2.2.1 u.2.2.2.2.2.1 u.2.2.2.2.2.2.1 u.2.2.2.2.2.2.2.1 u.2.2.2.2.2.2.2.2.1 u.2.2.2.2.2.2.2.2.2.1 u.2.2.2.2.2.2.2.2.2.2.1 u.2.2.2.2.2.2.2.2.2.2.2.1 u.2.2.2.2.2.2.2.2.2.2.2.2)) (fun u => VOKu w n op mu ba en pr u) (adA b 44)) 0 0 (adA b 44) := by
  refine mt_of (by decide +kernel) (Nat.le_of_ble_eq_true rfl) ?_
  intro p e s m below meth c S hr hlk hI ls hl
  have S : CallFix p m c cX7_many 2 s ([.ref (b 0), .int (nI 4)] : List Value).toArray lw_tb RX7 := S
  have hl : lv_has ls 2 [(0, .ref (b 0)), (1, .int (nI 4))] := hl
  have hS : va_S (adA b 44) s.heap s.heap [] := va_S.rf
  obtain ⟨gw1, gw2, gn, gl1, gl2, gop, gmu, gba, gla, gen, gpr, gop2, gmu2, gba2, gla2, gme, gbe, gle, gee⟩ := id hG
  obtain ⟨v1, v2, v3, v4, v5, v6, v7, v8, v9, v10, v11⟩ := id hVO
  refine lv_iload_n S.1 S.2.1 dX7_many_0 rfl (lv_at hl 1 rfl) ?_
  refine lv_tableIn (tgt := 69) (off := 68) S.1 S.2.1 dX7_many_1 (by decide) (by decide) (by decide) (by decide) ?_
  refine lv_aload_n S.1 S.2.1 dX7_many_69 rfl (lv_at hl 0 rfl) ?_
  refine kX7_tallyLaid S hI hS hDis hG v11 tw_549 (rok (by decide)) hl.1 (Nat.le_of_ble_eq_true rfl) dX7_many_70 (fun u1 H locs hu1 hI hS _ _ => ?_)
  refine lv_aload_n S.1 S.2.1 dX7_many_73 rfl (lv_at hl 0 rfl) ?_
  refine g7 S hI 0 rfl 4 (by decide) tw_240 rfl dX7_many_74 ?_
  refine kX5_total S hI hG tw_360 (rok (by decide)) hl.1 (Nat.le_of_ble_eq_true rfl) dX7_many_77 ?_
  exact rw_i S hr hlk (fr, co, cw, cj, cl, rv, rc, pj, pw, ch, pl, lc, tyS tl op la w n) (by rw [M_total (op := op) (jf := la) (n := n) (w := w) (tl := tyS tl op la w n) (fun q hq => tyS_e hq)]) ⟨v1, v2, v3, v4, v5, v6, v7, v8, v9, v10, tyS_le gw2 gn v11⟩ hI hS dX7_many_80
theorem kX7_many_4 {p : Program} {l : Launch} {e : Env} {R : Room} {s : State} {m : MethodId} {args : Array Value} {below : List Frame} {meth : Method} {c : Code} {H H0 : Heap} {locs : List Loc} {cells slots : Nat} {Q : State → Prop} {cc : ByteArray} {nL index pc : Nat} {own : String} {ls : Array Slot} {rest : List Value} {D : va_G} {K : Nat → ClassId} {b : Nat → Nat} {w n lap : Nat} {op mu ba la en : Nat → Nat} {pr : Nat → Option Nat} {fr : Bool} {co : Nat → Nat → Nat} {cw cj : Nat → Int64} {cl : Nat} {rv : Int64} {rc : Nat} {pj : Nat → Nat → Nat} {pw ch : Nat → Nat} {pl lc : Nat} {tl : Nat → Nat} (S : CallFix p m c cc nL s args lw_tb own) (hI : PI D K (cW K b w n lap op mu ba la en pr fr co cw cj cl rv rc pj pw ch pl lc tl) s H) (hS : va_S (adA b 44) H0 H locs) (hDis : Dis b 44) (hG : GOK w n lap op mu ba la en pr) (hVO : VOK w n op mu ba en pr fr co cl rv rc pj pw ch pl lc tl) (hlink : Cond.methodLink own index yX7_many ∈ lw_tb) (hR : RO 4 R cells slots) (hsz : ls.size = nL) (hW : (rest.map fun v => v.category).sum ≤ 8) (hdg : decode cc pc = .ok (.invokevirtual index, 3)) (kk : ∀ (u : CSc) (H1 : Heap) (locs1 : List Loc), (VOKu w n op mu ba en pr u) → PI D K (cW K b w n lap op mu ba la en pr u.1 u.2.1 u.2.2.1 u.2.2.2.1 u.2.2.2.2.1 u.2.2.2.2.2.1 u.2.2.2.2.2.2.1 u.2.2.2.2.2.2.2.1 u.2.2.2.2.2.2.2.2.1 u.2.2.2.2.2.2.2.2.2.1 u.2.2.2.2.2.2.2.2.2.2.1 u.2.2.2.2.2.2.2.2.2.2.2.1 u.2.2.2.2.2.2.2.2.2.2.2.2) s H1 → va_S (adA b 44) H0 H1 locs1 → H.size ≤ H1.size → (∀ q : Nat, q < H.size → ¬ (adA b 44) q → H1[q]? = H[q]?) → W p l e R s m args below meth c H1 locs1 cells slots Q (F0 m (pc + 3) ls ((.int (nI (sumN (fun q => sumN (fun z => pcF w (op z) (la z) (q + 1)) n) 10))) :: rest))) : W p l e R s m args below meth c H locs cells slots Q (F0 m pc ls (.int (nI 4) :: .ref (b 0) :: rest)) :=
  kVX (As := [.int (nI 4)]) (b := b 0) S (mX7_many_4 l hDis hG hVO) hlink tw_584 tw_585 tw_42 tw_586 (by show _ ∧ _ ∧ _ = some 1; decide +kernel) (by decide) hR blP (piU hI) (va_recv hI.2 hI.1 (ci := 7) (q0 := 0) rfl rfl) hS (fun _ h => h) hsz rfl hW hdg kk
