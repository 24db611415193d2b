set_option maxHeartbeats 4000000 in
set_option maxRecDepth 100000 in
theorem mX6_addPieces (l : Launch) {D : va_G} {K : Nat → ClassId} {b : Nat → Nat} {w n lap : Nat} {op mu ba la en : Nat → Nat} {pr : Nat → Option Nat} {fr : Bool} {co : Nat → Nat → Nat} {cw cj : Nat → Int64} {cl : Nat} {rv : Int64} {rc : Nat} {pj : Nat → Nat → Nat} {pw ch : Nat → Nat} {pl lc : Nat} {tl : Nat → Nat} {i : Nat} {j : Nat} (hDis : Dis b 44) (hG : GOK w n lap op mu ba la en pr) (hi : i < 9) (hj : j < 1024) (ht : ∀ q, tl q ≤ 100000) : Met l yX6_addPieces (TWd yX6_addPieces cX6_addPieces 7 none) (rmk 2) (va_Pc [.ref (b 1), .ref (b (19 + i)), .int (nI j), .ref (b 17)] (fun U => PI D K (cW K b w n lap op mu ba la en pr fr co cw cj cl rv rc pj pw ch pl lc tl) U U.heap)) (QX D K (fun u : Unit => none) (fun u => (cW K b w n lap op mu ba la en pr fr co cw cj cl rv rc pj pw ch pl lc (tlP w (gz op i) j tl w))) (fun u => True) (adA b 44)) 0 0 (adA b 44) := by
  refine mt_of (by decide +kernel) (Nat.le_of_ble_eq_true rfl) ?_
  intro p e s m below meth c S hr hlk hI ls hl
  have S : CallFix p m c cX6_addPieces 7 s ([.ref (b 1), .ref (b (19 + i)), .int (nI j), .ref (b 17)] : List Value).toArray lw_tb RX6 := S
  have hl : lv_has ls 7 [(0, .ref (b 1)), (1, .ref (b (19 + i))), (2, .int (nI j)), (3, .ref (b 17))] := hl
  have hS : va_S (adA b 44) s.heap s.heap [] := va_S.rf
  obtain ⟨gw1, gw2, gn, gl1, gl2, gop, gmu, gba, gla, gen, gpr, gop2, gmu2, gba2, gla2, gme, gbe, gle, gee⟩ := id hG
  refine lv_aload_n S.1 S.2.1 dX6_addPieces_0 rfl (lv_at hl 0 rfl) ?_
  refine lv_aload_n S.1 S.2.1 dX6_addPieces_1 rfl (lv_at hl 1 rfl) ?_
  refine lv_iload_n S.1 S.2.1 dX6_addPieces_2 rfl (lv_at hl 2 rfl) ?_
  refine kX6_bounds S hI hG (by first | omega | exact bwc_lt (by omega)) (by omega) tw_344 (rok (by decide)) hl.1 (Nat.le_of_ble_eq_true rfl) dX6_addPieces_3 ?_
  have b1 : bnd w (gz op i) j < 2048 := bnd_lt gw2 gop _ (by omega)
  refine lv_istore (lv' := [(4, .int (nI (bnd w (gz op i) j))), (0, .ref (b 1)), (1, .ref (b (19 + i))), (2, .int (nI j)), (3, .ref (b 17))]) S.1 S.2.1 dX6_addPieces_6 hl (by decide) rfl (fun ls hl => ?_)
  refine lv_iconst (v := nI 0) S.1 S.2.1 dX6_addPieces_8 (by decide) ?_
  refine lv_istore (lv' := [(5, .int (nI 0)), (4, .int (nI (bnd w (gz op i) j))), (0, .ref (b 1)), (1, .ref (b (19 + i))), (2, .int (nI j)), (3, .ref (b 17))]) S.1 S.2.1 dX6_addPieces_9 hl (by decide) rfl (fun ls hl => ?_)
  refine lv_iconst (v := nI 1) S.1 S.2.1 dX6_addPieces_11 (by decide) ?_
  rw [← tlP_0 (w := w) (o := gz op i) (j := j) (tl := tl)] at hI
  refine lv_istore (lv' := [(6, .int (nI 1)), (5, .int (nI 0)), (4, .int (nI (bnd w (gz op i) j))), (0, .ref (b 1)), (1, .ref (b (19 + i))), (2, .int (nI j)), (3, .ref (b 17))]) S.1 S.2.1 dX6_addPieces_12 hl (by decide) rfl (fun ls hl => ?_)
  have L14 : ∀ (f14 : Nat) (xf : Nat) (to : Nat) (H : Heap) (locs : List Loc), (LB (bnd w (gz op i) j) 0 xf to) → (to ≤ w + 1) → (PI D K (cW K b w n lap op mu ba la en pr fr co cw cj cl rv rc pj pw ch pl lc (tlP w (gz op i) j tl xf)) s H) → (va_S (adA b 44) s.heap H locs) → w + 1 - to < f14 → ∀ (ls : Array Slot), lv_has ls 7 [(0, .ref (b 1)), (1, .ref (b (19 + i))), (2, .int (nI j)), (3, .ref (b 17)), (4, .int (nI (bnd w (gz op i) j))), (5, .int (nI xf)), (6, .int (nI to))] → W p l e (rmk 2) s m ([.ref (b 1), .ref (b (19 + i)), .int (nI j), .ref (b 17)] : List Value).toArray below meth c H locs 0 0 (MQ below (QX D K (fun u : Unit => none) (fun u => (cW K b w n lap op mu ba la en pr fr co cw cj cl rv rc pj pw ch pl lc (tlP w (gz op i) j tl w))) (fun u => True) (adA b 44)) ([.ref (b 1), .ref (b (19 + i)), .int (nI j), .ref (b 17)] : List Value).toArray s 0 0 (adA b 44)) (F0 m 14 ls []) := by
    intro f14
    induction f14 with
    | zero =>
      intro xf to H locs i1 i2 hI hS hm
      exact absurd hm (Nat.not_lt_zero _)
    | succ f14 ih14 =>
      intro xf to H locs i1 i2 hI hS hm14 ls hl
      have i3 := i1.2.1
      refine lv_iload S.1 S.2.1 dX6_addPieces_14 (lv_at hl 6 rfl) ?_
      refine lv_aload_n S.1 S.2.1 dX6_addPieces_16 rfl (lv_at hl 0 rfl) ?_
      refine g6 S hI 1 rfl 3 (by decide) tw_125 rfl dX6_addPieces_17 ?_
      refine ly_cmgt (tgt := 61) S (nI_l1 (by omega) (by omega)) (nI_l2 (by omega) (by omega)) dX6_addPieces_20 (by decide) (fun h2 => ?_) (fun h2 => ?_)
      · skip
        have et : to = w + 1 := by omega
        have ef : xf = w := by subst et; exact LB_end i1 bnd_w
        rw [ef] at hI
        exact rw_v S hr hlk () rfl trivial hI hS dX6_addPieces_61
      · skip
        refine lv_iload S.1 S.2.1 dX6_addPieces_23 (lv_at hl 4 rfl) ?_
        refine lv_iload S.1 S.2.1 dX6_addPieces_25 (lv_at hl 6 rfl) ?_
        refine lv_ishr S.1 S.2.1 dX6_addPieces_27 ?_
        refine ly_top (z := nI ((bnd w (gz op i) j) >>> to)) (nI_shr (by omega) (by omega)) ?_
        refine lv_iconst (v := nI 1) S.1 S.2.1 dX6_addPieces_28 (by decide) ?_
        refine lv_iand S.1 S.2.1 dX6_addPieces_29 ?_
        refine ly_top (z := nI (((bnd w (gz op i) j) >>> to) &&& 1)) (nI_and (Nat.lt_of_le_of_lt (Nat.shiftRight_le _ _) (by omega)) (by omega)) ?_
        refine ly_top (z := (nI (((bnd w (gz op i) j) >>> to) % 2))) (by rw [and1]) ?_
        have q27 : ((bnd w (gz op i) j) >>> to) % 2 < 2 := Nat.mod_lt _ (by decide)
        refine ly_ifeq (tgt := 55) S (nI_z1 (by omega)) (nI_z2 (by omega)) dX6_addPieces_30 (by decide) (fun h3 => ?_) (fun h3 => ?_)
        · skip
          refine lv_iinc (v := nI (to + 1)) (lv' := [(6, .int (nI (to + 1))), (0, .ref (b 1)), (1, .ref (b (19 + i))), (2, .int (nI j)), (3, .ref (b 17)), (4, .int (nI (bnd w (gz op i) j))), (5, .int (nI xf))]) S.1 S.2.1 dX6_addPieces_55 hl (k := 6) rfl (nJ_in _ _) (by decide) rfl (fun ls hl => ?_)
          refine lv_goto (tgt := 14) S.1 S.2.1 dX6_addPieces_58 (by decide) ?_
          exact ih14 xf (to + 1) _ _ (LB_f i1 (tb0 (by omega))) (by omega) hI hS (by omega) _ (lv_sub hl [1, 2, 3, 4, 5, 6, 0] rfl)
        · skip
          have tb : (bnd w (gz op i) j).testBit to = true := tb1 (by omega)
          refine lv_aload_n S.1 S.2.1 dX6_addPieces_33 rfl (lv_at hl 1 rfl) ?_
          refine lv_iload S.1 S.2.1 dX6_addPieces_34 (lv_at hl 5 rfl) ?_
          refine kX2_isOpen S hI hG (by first | omega | exact bwc_lt (by omega)) (by omega) tw_352 (rok (by decide)) hl.1 (Nat.le_of_ble_eq_true rfl) dX6_addPieces_36 ?_
          refine ly_ifne (tgt := 51) S bI_e2 bI_e1 dX6_addPieces_39 (by decide) (fun h4 => ?_) (fun h4 => ?_)
          · skip
            rw [tlP_o i1 (by omega) tb h4] at hI
            refine lv_iload S.1 S.2.1 dX6_addPieces_51 (lv_at hl 6 rfl) ?_
            refine lv_istore (lv' := [(5, .int (nI to)), (0, .ref (b 1)), (1, .ref (b (19 + i))), (2, .int (nI j)), (3, .ref (b 17)), (4, .int (nI (bnd w (gz op i) j))), (6, .int (nI to))]) S.1 S.2.1 dX6_addPieces_53 hl (by decide) rfl (fun ls hl => ?_)
            refine lv_iinc (v := nI (to + 1)) (lv' := [(6, .int (nI (to + 1))), (5, .int (nI to)), (0, .ref (b 1)), (1, .ref (b (19 + i))), (2, .int (nI j)), (3, .ref (b 17)), (4, .int (nI (bnd w (gz op i) j)))]) S.1 S.2.1 dX6_addPieces_55 hl (k := 6) rfl (nJ_in _ _) (by decide) rfl (fun ls hl => ?_)
            refine lv_goto (tgt := 14) S.1 S.2.1 dX6_addPieces_58 (by decide) ?_
            exact ih14 to (to + 1) _ _ (LB_t i1 tb) (by omega) hI hS (by omega) _ (lv_sub hl [2, 3, 4, 5, 6, 1, 0] rfl)
          · skip
            refine lv_aload_n S.1 S.2.1 dX6_addPieces_42 rfl (lv_at hl 3 rfl) ?_
            refine lv_iload S.1 S.2.1 dX6_addPieces_43 (lv_at hl 6 rfl) ?_
            refine lv_iload S.1 S.2.1 dX6_addPieces_45 (lv_at hl 5 rfl) ?_
            refine lv_isub S.1 S.2.1 dX6_addPieces_47 ?_
            refine ly_top (z := nI (to - xf)) (pk_sub (by omega)) ?_
            refine kX5_add S hI hS hDis hG (by omega) tw_356 (rok (by decide)) hl.1 (Nat.le_of_ble_eq_true rfl) dX6_addPieces_48 (fun u5 H locs hu5 hI hS _ _ => ?_)
            rw [tlP_a i1 (by omega) tb h4] at hI
            refine lv_iload S.1 S.2.1 dX6_addPieces_51 (lv_at hl 6 rfl) ?_
            refine lv_istore (lv' := [(5, .int (nI to)), (0, .ref (b 1)), (1, .ref (b (19 + i))), (2, .int (nI j)), (3, .ref (b 17)), (4, .int (nI (bnd w (gz op i) j))), (6, .int (nI to))]) S.1 S.2.1 dX6_addPieces_53 hl (by decide) rfl (fun ls hl => ?_)
            refine lv_iinc (v := nI (to + 1)) (lv' := [(6, .int (nI (to + 1))), (5, .int (nI to)), (0, .ref (b 1)), (1, .ref (b (19 + i))), (2, .int (nI j)), (3, .ref (b 17)), (4, .int (nI (bnd w (gz op i) j)))]) S.1 S.2.1 dX6_addPieces_55 hl (k := 6) rfl (nJ_in _ _) (by decide) rfl (fun ls hl => ?_)
            refine lv_goto (tgt := 14) S.1 S.2.1 dX6_addPieces_58 (by decide) ?_
            exact ih14 to (to + 1) _ _ (LB_t i1 tb) (by omega) hI hS (by omega) _ (lv_sub hl [2, 3, 4, 5, 6, 1, 0] rfl)
  exact L14 _ 0 1 _ _ LB_0 (by omega) hI hS (Nat.lt_succ_self _) _ (lv_sub hl [3, 4, 5, 6, 2, 1, 0] rfl)
theorem kX6_addPieces {p : Program} {l : Launch} {e : Env} {R : Room} {s : State} {m : MethodId} {args : Array Value} {below : List Frame} {meth : Method} {c : Code} {H H0 : Heap} {locs : List Loc} {cells slots : Nat} {Q : State → Prop} {cc : ByteArray} {nL index pc : Nat} {own : String} {ls : Array Slot} {rest : List Value} {D : va_G} {K : Nat → ClassId} {b : Nat → Nat} {w n lap : Nat} {op mu ba la en : Nat → Nat} {pr : Nat → Option Nat} {fr : Bool} {co : Nat → Nat → Nat} {cw cj : Nat → Int64} {cl : Nat} {rv : Int64} {rc : Nat} {pj : Nat → Nat → Nat} {pw ch : Nat → Nat} {pl lc : Nat} {tl : Nat → Nat} {i : Nat} {j : Nat} (S : CallFix p m c cc nL s args lw_tb own) (hI : PI D K (cW K b w n lap op mu ba la en pr fr co cw cj cl rv rc pj pw ch pl lc tl) s H) (hS : va_S (adA b 44) H0 H locs) (hDis : Dis b 44) (hG : GOK w n lap op mu ba la en pr) (hi : i < 9) (hj : j < 1024) (ht : ∀ q, tl q ≤ 100000) (hlink : Cond.methodLink own index yX6_addPieces ∈ lw_tb) (hR : RO 2 R cells slots) (hsz : ls.size = nL) (hW : (rest.map fun v => v.category).sum ≤ 8) (hdg : decode cc pc = .ok (.invokevirtual index, 3)) (kk : ∀ (u : Unit) (H1 : Heap) (locs1 : List Loc), (True) → PI D K (cW K b w n lap op mu ba la en pr fr co cw cj cl rv rc pj pw ch pl lc (tlP w (gz op i) j tl w)) s H1 → va_S (adA b 44) H0 H1 locs1 → H.size ≤ H1.size → (∀ q : Nat, q < H.size → ¬ (adA b 44) q → H1[q]? = H[q]?) → W p l e R s m args below meth c H1 locs1 cells slots Q (F0 m (pc + 3) ls (rest))) : W p l e R s m args below meth c H locs cells slots Q (F0 m pc ls (.ref (b 17) :: .int (nI j) :: .ref (b (19 + i)) :: .ref (b 1) :: rest)) :=
  kVX (As := [.ref (b (19 + i)), .int (nI j), .ref (b 17)]) (b := b 1) S (mX6_addPieces l hDis hG hi hj ht) hlink tw_341 tw_342 tw_43 tw_343 (by show _ ∧ _ ∧ _ = some 3; decide +kernel) (by decide) hR blP (piU hI) (va_recv hI.2 hI.1 (ci := 6) (q0 := 1) rfl rfl) hS (fun _ h => h) hsz rfl hW hdg kk

set_option maxHeartbeats 4000000 in
set_option maxRecDepth 100000 in
theorem mX6_ruleBrokenByPiece (l : Launch) {D : va_G} {K : Nat → ClassId} {b : Nat → Nat} {w n lap : Nat} {op mu ba la en : Nat → Nat} {pr : Nat → Option Nat} {fr : Bool} {co : Nat → Nat → Nat} {cw cj : Nat → Int64} {cl : Nat} {rv : Int64} {rc : Nat} {pj : Nat → Nat → Nat} {pw ch : Nat → Nat} {pl lc : Nat} {tl : Nat → Nat} {ci : Nat} {x : Nat} {to : Nat} (hG : GOK w n lap op mu ba la en pr) (hc : ci < n) (hx : x < to) (hto : to ≤ w) : Met l yX6_ruleBrokenByPiece (TWd yX6_ruleBrokenByPiece cX6_ruleBrokenByPiece 9 (some .int)) (rmk 1) (va_Pc [.ref (b 1), .int (nI ci), .int (nI x), .int (nI to)] (fun U => PI D K (cW K b w n lap op mu ba la en pr fr co cw cj cl rv rc pj pw ch pl lc tl) U U.heap)) (QcRead (nI (rbP pr w (bl op ci) (en (ci % 2 * 2)) (en (ci % 2 * 2 + 1)) x (to - x)))) 0 0 (fun _ => False) := by
  refine mt_of (by decide +kernel) (Nat.le_of_ble_eq_true rfl) ?_
  intro p e s m below meth c S hr hlk hI ls hl
  have S : CallFix p m c cX6_ruleBrokenByPiece 9 s ([.ref (b 1), .int (nI ci), .int (nI x), .int (nI to)] : List Value).toArray lw_tb RX6 := S
  have hl : lv_has ls 9 [(0, .ref (b 1)), (1, .int (nI ci)), (2, .int (nI x)), (3, .int (nI to))] := hl
  obtain ⟨gw1, gw2, gn, gl1, gl2, gop, gmu, gba, gla, gen, gpr, gop2, gmu2, gba2, gla2, gme, gbe, gle, gee⟩ := id hG
  have o1 := bl_lt gop ci
  refine lv_iload_n S.1 S.2.1 dX6_ruleBrokenByPiece_0 rfl (lv_at hl 3 rfl) ?_
  refine lv_iload_n S.1 S.2.1 dX6_ruleBrokenByPiece_1 rfl (lv_at hl 2 rfl) ?_
  refine lv_isub S.1 S.2.1 dX6_ruleBrokenByPiece_2 ?_
  refine ly_top (z := nI (to - x)) (pk_sub (by omega)) ?_
  refine lv_istore (lv' := [(4, .int (nI (to - x))), (0, .ref (b 1)), (1, .int (nI ci)), (2, .int (nI x)), (3, .int (nI to))]) S.1 S.2.1 dX6_ruleBrokenByPiece_3 hl (by decide) rfl (fun ls hl => ?_)
  refine lv_aload_n S.1 S.2.1 dX6_ruleBrokenByPiece_5 rfl (lv_at hl 1 rfl) ?_
  refine g6 S hI 1 rfl 0 (by decide) tw_121 rfl dX6_ruleBrokenByPiece_6 ?_
  refine lv_iload S.1 S.2.1 dX6_ruleBrokenByPiece_9 (lv_at hl 0 rfl) ?_
  refine kX0_priceOf S hI hG (by omega) tw_388 (rok (by decide)) hl.1 (Nat.le_of_ble_eq_true rfl) dX6_ruleBrokenByPiece_11 ?_
  refine lv_bipush (v := (-9)) S.1 S.2.1 dX6_ruleBrokenByPiece_14 (by decide) ?_
  refine ly_cmne (tgt := 21) S (fun q => q) (fun q => q) dX6_ruleBrokenByPiece_16 (by decide) (fun h1 => ?_) (fun h1 => ?_)
  · skip
    have r3 := ppI_s (L := to - x) (by omega) h1
    have J46 : ∀ (ls : Array Slot), lv_has ls 9 [(0, .ref (b 1)), (1, .int (nI ci)), (2, .int (nI x)), (3, .int (nI to)), (4, .int (nI (to - x))), (5, .int (bI (decide (x = 0) && !Nat.testBit (en (ci % 2 * 2)) (to - x))))] → W p l e (rmk 1) s m ([.ref (b 1), .int (nI ci), .int (nI x), .int (nI to)] : List Value).toArray below meth c s.heap [] 0 0 (MQ below (QcRead (nI (rbP pr w (bl op ci) (en (ci % 2 * 2)) (en (ci % 2 * 2 + 1)) x (to - x)))) ([.ref (b 1), .int (nI ci), .int (nI x), .int (nI to)] : List Value).toArray s 0 0 (fun _ => False)) (F0 m 46 ls []) := by
      intro  ls hl
      have J75 : ∀ (ls : Array Slot), lv_has ls 9 [(0, .ref (b 1)), (1, .int (nI ci)), (2, .int (nI x)), (3, .int (nI to)), (4, .int (nI (to - x))), (5, .int (bI (decide (x = 0) && !Nat.testBit (en (ci % 2 * 2)) (to - x)))), (6, .int (bI (decide (x + (to - x) = w) && !Nat.testBit (en (ci % 2 * 2 + 1)) (to - x))))] → W p l e (rmk 1) s m ([.ref (b 1), .int (nI ci), .int (nI x), .int (nI to)] : List Value).toArray below meth c s.heap [] 0 0 (MQ below (QcRead (nI (rbP pr w (bl op ci) (en (ci % 2 * 2)) (en (ci % 2 * 2 + 1)) x (to - x)))) ([.ref (b 1), .int (nI ci), .int (nI x), .int (nI to)] : List Value).toArray s 0 0 (fun _ => False)) (F0 m 75 ls []) := by
        intro  ls hl
        refine lv_iload S.1 S.2.1 dX6_ruleBrokenByPiece_75 (lv_at hl 5 rfl) ?_
        refine ly_ifne (tgt := 85) S bI_e2 bI_e1 dX6_ruleBrokenByPiece_77 (by decide) (fun h2 => ?_) (fun h2 => ?_)
        · skip
          refine lv_iconst (v := nI 4) S.1 S.2.1 dX6_ruleBrokenByPiece_85 (by decide) ?_
          exact rt_i S hr hlk (rb_4 r3 (by unfold r4T; rw [h2]; simp)) dX6_ruleBrokenByPiece_86
        · skip
          refine lv_iload S.1 S.2.1 dX6_ruleBrokenByPiece_80 (lv_at hl 6 rfl) ?_
          refine ly_ifeq (tgt := 87) S bI_e1 bI_e2 dX6_ruleBrokenByPiece_82 (by decide) (fun h3 => ?_) (fun h3 => ?_)
          · skip
            have r4 : r4T w (en (ci % 2 * 2)) (en (ci % 2 * 2 + 1)) x (to - x) = false := by unfold r4T; rw [h2, h3]; rfl
            refine lv_aload_n S.1 S.2.1 dX6_ruleBrokenByPiece_87 rfl (lv_at hl 0 rfl) ?_
            refine lv_iload_n S.1 S.2.1 dX6_ruleBrokenByPiece_88 rfl (lv_at hl 1 rfl) ?_
            refine lv_iconst (v := nI 1) S.1 S.2.1 dX6_ruleBrokenByPiece_89 (by decide) ?_
            refine lv_isub S.1 S.2.1 dX6_ruleBrokenByPiece_90 ?_
            refine kX6_at_b S hI (by omega) (by omega) tw_383 (rok (by decide)) hl.1 (Nat.le_of_ble_eq_true rfl) dX6_ruleBrokenByPiece_91 ?_
            refine lv_astore (lv' := [(7, .ref (b (19 + bwc ci))), (0, .ref (b 1)), (1, .int (nI ci)), (2, .int (nI x)), (3, .int (nI to)), (4, .int (nI (to - x))), (5, .int (bI (decide (x = 0) && !Nat.testBit (en (ci % 2 * 2)) (to - x)))), (6, .int (bI (decide (x + (to - x) = w) && !Nat.testBit (en (ci % 2 * 2 + 1)) (to - x))))]) S.1 S.2.1 dX6_ruleBrokenByPiece_94 hl (by decide) rfl (fun ls hl => ?_)
            refine lv_aload S.1 S.2.1 dX6_ruleBrokenByPiece_96 (lv_at hl 0 rfl) ?_
            refine lv_iload_n S.1 S.2.1 dX6_ruleBrokenByPiece_98 rfl (lv_at hl 3 rfl) ?_
            refine kX2_isOpen S hI hG (by first | omega | exact bwc_lt (by omega)) (by omega) tw_352 (rok (by decide)) hl.1 (Nat.le_of_ble_eq_true rfl) dX6_ruleBrokenByPiece_99 ?_
            refine ly_top (z := (bI (Nat.testBit (bl op ci) x))) (by rw [gzb (by omega)]) ?_
            refine ly_ifne (tgt := 116) S bI_e2 bI_e1 dX6_ruleBrokenByPiece_102 (by decide) (fun h4 => ?_) (fun h4 => ?_)
            · skip
              refine lv_iconst (v := nI 5) S.1 S.2.1 dX6_ruleBrokenByPiece_116 (by decide) ?_
              exact rt_i S hr hlk (rb_5 r3 r4 (by rw [show x + (to - x) - 1 = to - 1 by omega]; simp [h3, h4])) dX6_ruleBrokenByPiece_117
            · skip
              refine lv_aload S.1 S.2.1 dX6_ruleBrokenByPiece_105 (lv_at hl 0 rfl) ?_
              refine lv_iload_n S.1 S.2.1 dX6_ruleBrokenByPiece_107 rfl (lv_at hl 4 rfl) ?_
              refine lv_iconst (v := nI 1) S.1 S.2.1 dX6_ruleBrokenByPiece_108 (by decide) ?_
              refine lv_isub S.1 S.2.1 dX6_ruleBrokenByPiece_109 ?_
              refine ly_top (z := nI (to - 1)) (pk_sub (by omega)) ?_
              refine kX2_isOpen S hI hG (by first | omega | exact bwc_lt (by omega)) (by omega) tw_352 (rok (by decide)) hl.1 (Nat.le_of_ble_eq_true rfl) dX6_ruleBrokenByPiece_110 ?_
              refine ly_top (z := (bI (Nat.testBit (bl op ci) (to - 1)))) (by rw [gzb (by omega)]) ?_
              refine ly_ifeq (tgt := 118) S bI_e1 bI_e2 dX6_ruleBrokenByPiece_113 (by decide) (fun h5 => ?_) (fun h5 => ?_)
              · skip
                have r5 : (Nat.testBit (bl op ci) x || Nat.testBit (bl op ci) (x + (to - x) - 1)) = false := by rw [show x + (to - x) - 1 = to - 1 by omega, h4, h5]; rfl
                refine lv_iconst (v := nI 1) S.1 S.2.1 dX6_ruleBrokenByPiece_118 (by decide) ?_
                refine lv_iload_n S.1 S.2.1 dX6_ruleBrokenByPiece_119 rfl (lv_at hl 4 rfl) ?_
                refine lv_ishl S.1 S.2.1 dX6_ruleBrokenByPiece_120 ?_
                refine ly_top (z := nI (1 <<< to)) (nI_shl (by omega) (by rw [Nat.one_shiftLeft]; have := Nat.pow_le_pow_right (show 0 < 2 by decide) (show to ≤ 10 by omega); omega)) ?_
                refine ly_top (z := (nI (2 ^ to))) (Nat.one_shiftLeft to ▸ rfl) ?_
                refine lv_iconst (v := nI 1) S.1 S.2.1 dX6_ruleBrokenByPiece_121 (by decide) ?_
                refine lv_iload_n S.1 S.2.1 dX6_ruleBrokenByPiece_122 rfl (lv_at hl 3 rfl) ?_
                refine lv_ishl S.1 S.2.1 dX6_ruleBrokenByPiece_123 ?_
                refine ly_top (z := nI (1 <<< x)) (nI_shl (by omega) (by rw [Nat.one_shiftLeft]; have := Nat.pow_le_pow_right (show 0 < 2 by decide) (show x ≤ 10 by omega); omega)) ?_
                refine ly_top (z := (nI (2 ^ x))) (Nat.one_shiftLeft x ▸ rfl) ?_
                have pxt : 2 ^ x ≤ 2 ^ to := Nat.pow_le_pow_right (by decide) (by omega)
                have pt : 2 ^ to ≤ 2 ^ 10 := Nat.pow_le_pow_right (by decide) (by omega)
                refine lv_isub S.1 S.2.1 dX6_ruleBrokenByPiece_124 ?_
                refine ly_top (z := nI ((2 ^ to) - (2 ^ x))) (pk_sub pxt) ?_
                refine lv_istore (lv' := [(8, .int (nI ((2 ^ to) - (2 ^ x)))), (7, .ref (b (19 + bwc ci))), (0, .ref (b 1)), (1, .int (nI ci)), (2, .int (nI x)), (3, .int (nI to)), (4, .int (nI (to - x))), (5, .int (bI (decide (x = 0) && !Nat.testBit (en (ci % 2 * 2)) (to - x)))), (6, .int (bI (decide (x + (to - x) = w) && !Nat.testBit (en (ci % 2 * 2 + 1)) (to - x))))]) S.1 S.2.1 dX6_ruleBrokenByPiece_125 hl (by decide) rfl (fun ls hl => ?_)
                refine lv_iload S.1 S.2.1 dX6_ruleBrokenByPiece_127 (lv_at hl 6 rfl) ?_
                refine lv_iconst (v := nI 4) S.1 S.2.1 dX6_ruleBrokenByPiece_129 (by decide) ?_
                refine ly_cmle (tgt := 147) S (nI_le1 (by omega) (by omega)) (nI_le2 (by omega) (by omega)) dX6_ruleBrokenByPiece_130 (by decide) (fun h6 => ?_) (fun h6 => ?_)
                · skip
                  refine lv_iconst (v := nI 0) S.1 S.2.1 dX6_ruleBrokenByPiece_147 (by decide) ?_
                  exact rt_i S hr hlk (rb_0a r3 r4 r5 (by omega)) dX6_ruleBrokenByPiece_148
                · skip
                  refine lv_aload S.1 S.2.1 dX6_ruleBrokenByPiece_133 (lv_at hl 1 rfl) ?_
                  refine g2 S hI (19 + (bwc ci)) (cw_cr (bwc_lt (by omega))) 0 (by decide) tw_104 rfl dX6_ruleBrokenByPiece_135 ?_
                  refine ly_top (z := (nI (bl op ci))) (by rw [gzb (by omega)]) ?_
                  refine lv_iload S.1 S.2.1 dX6_ruleBrokenByPiece_138 (lv_at hl 0 rfl) ?_
                  refine lv_iand S.1 S.2.1 dX6_ruleBrokenByPiece_140 ?_
                  refine ly_top (z := nI ((bl op ci) &&& ((2 ^ to) - (2 ^ x)))) (nI_and (by omega) (Nat.lt_of_le_of_lt (Nat.sub_le _ _) (by omega))) ?_
                  refine ly_ifne (tgt := 147) S (nI_z2 (Nat.lt_of_le_of_lt Nat.and_le_left (by omega))) (nI_z1 (Nat.lt_of_le_of_lt Nat.and_le_left (by omega))) dX6_ruleBrokenByPiece_141 (by decide) (fun h7 => ?_) (fun h7 => ?_)
                  · skip
                    refine lv_iconst (v := nI 0) S.1 S.2.1 dX6_ruleBrokenByPiece_147 (by decide) ?_
                    exact rt_i S hr hlk (rb_0b r3 r4 r5 (fun q => h7 (by have z := msk.mpr q; rw [show x + (to - x) = to by omega] at z; exact z))) dX6_ruleBrokenByPiece_148
                  · skip
                    refine lv_bipush (v := nI 6) S.1 S.2.1 dX6_ruleBrokenByPiece_144 (by decide) ?_
                    exact rt_i S hr hlk (rb_6 r3 r4 r5 (by omega) (msk.mp (by rw [show x + (to - x) = to by omega]; exact h7))) dX6_ruleBrokenByPiece_146
              · skip
                refine lv_iconst (v := nI 5) S.1 S.2.1 dX6_ruleBrokenByPiece_116 (by decide) ?_
                exact rt_i S hr hlk (rb_5 r3 r4 (by rw [show x + (to - x) - 1 = to - 1 by omega]; simp [h4, h5])) dX6_ruleBrokenByPiece_117
          · skip
            refine lv_iconst (v := nI 4) S.1 S.2.1 dX6_ruleBrokenByPiece_85 (by decide) ?_
            exact rt_i S hr hlk (rb_4 r3 (by unfold r4T; rw [h3]; simp)) dX6_ruleBrokenByPiece_86
      refine lv_iload_n S.1 S.2.1 dX6_ruleBrokenByPiece_46 rfl (lv_at hl 3 rfl) ?_
      refine lv_aload_n S.1 S.2.1 dX6_ruleBrokenByPiece_47 rfl (lv_at hl 0 rfl) ?_
      refine g6 S hI 1 rfl 3 (by decide) tw_125 rfl dX6_ruleBrokenByPiece_48 ?_
      refine ly_cmne (tgt := 72) S (nI_e2 (by omega) (by omega)) (nI_e1 (by omega) (by omega)) dX6_ruleBrokenByPiece_51 (by decide) (fun h8 => ?_) (fun h8 => ?_)
      · skip
        refine lv_iconst (v := nI 0) S.1 S.2.1 dX6_ruleBrokenByPiece_72 (by decide) ?_
        refine ly_top (z := bI (decide (x + (to - x) = w) && !Nat.testBit (en (ci % 2 * 2 + 1)) (to - x))) (by rw [show (decide (x + (to - x) = w) && !Nat.testBit (en (ci % 2 * 2 + 1)) (to - x)) = false from (an_0 (by omega))]; rfl) ?_
        refine lv_istore (lv' := [(6, .int (bI (decide (x + (to - x) = w) && !Nat.testBit (en (ci % 2 * 2 + 1)) (to - x)))), (0, .ref (b 1)), (1, .int (nI ci)), (2, .int (nI x)), (3, .int (nI to)), (4, .int (nI (to - x))), (5, .int (bI (decide (x = 0) && !Nat.testBit (en (ci % 2 * 2)) (to - x))))]) S.1 S.2.1 dX6_ruleBrokenByPiece_73 hl (by decide) rfl (fun ls hl => ?_)
        exact J75  _ (lv_sub hl [1, 2, 3, 4, 5, 6, 0] rfl)
      · skip
        refine lv_aload_n S.1 S.2.1 dX6_ruleBrokenByPiece_54 rfl (lv_at hl 0 rfl) ?_
        refine g6 S hI 1 rfl 0 (by decide) tw_121 rfl dX6_ruleBrokenByPiece_55 ?_
        refine lv_iload_n S.1 S.2.1 dX6_ruleBrokenByPiece_58 rfl (lv_at hl 1 rfl) ?_
        refine lv_iconst (v := nI 1) S.1 S.2.1 dX6_ruleBrokenByPiece_59 (by decide) ?_
        refine lv_iload S.1 S.2.1 dX6_ruleBrokenByPiece_60 (lv_at hl 4 rfl) ?_
        refine kX0_mayEnd S hI hG (by omega) (by omega) (by omega) tw_389 (rok (by decide)) hl.1 (Nat.le_of_ble_eq_true rfl) dX6_ruleBrokenByPiece_62 ?_
        refine ly_ifne (tgt := 72) S bI_e2 bI_e1 dX6_ruleBrokenByPiece_65 (by decide) (fun h9 => ?_) (fun h9 => ?_)
        · skip
          refine lv_iconst (v := nI 0) S.1 S.2.1 dX6_ruleBrokenByPiece_72 (by decide) ?_
          refine ly_top (z := bI (decide (x + (to - x) = w) && !Nat.testBit (en (ci % 2 * 2 + 1)) (to - x))) (by rw [show (decide (x + (to - x) = w) && !Nat.testBit (en (ci % 2 * 2 + 1)) (to - x)) = false from (an_1 h9)]; rfl) ?_
          refine lv_istore (lv' := [(6, .int (bI (decide (x + (to - x) = w) && !Nat.testBit (en (ci % 2 * 2 + 1)) (to - x)))), (0, .ref (b 1)), (1, .int (nI ci)), (2, .int (nI x)), (3, .int (nI to)), (4, .int (nI (to - x))), (5, .int (bI (decide (x = 0) && !Nat.testBit (en (ci % 2 * 2)) (to - x))))]) S.1 S.2.1 dX6_ruleBrokenByPiece_73 hl (by decide) rfl (fun ls hl => ?_)
          exact J75  _ (lv_sub hl [1, 2, 3, 4, 5, 6, 0] rfl)
        · skip
          refine lv_iconst (v := nI 1) S.1 S.2.1 dX6_ruleBrokenByPiece_68 (by decide) ?_
          refine lv_goto (tgt := 73) S.1 S.2.1 dX6_ruleBrokenByPiece_69 (by decide) ?_
          refine ly_top (z := bI (decide (x + (to - x) = w) && !Nat.testBit (en (ci % 2 * 2 + 1)) (to - x))) (by rw [show (decide (x + (to - x) = w) && !Nat.testBit (en (ci % 2 * 2 + 1)) (to - x)) = true from (an_2 (by omega) h9)]; rfl) ?_
          refine lv_istore (lv' := [(6, .int (bI (decide (x + (to - x) = w) && !Nat.testBit (en (ci % 2 * 2 + 1)) (to - x)))), (0, .ref (b 1)), (1, .int (nI ci)), (2, .int (nI x)), (3, .int (nI to)), (4, .int (nI (to - x))), (5, .int (bI (decide (x = 0) && !Nat.testBit (en (ci % 2 * 2)) (to - x))))]) S.1 S.2.1 dX6_ruleBrokenByPiece_73 hl (by decide) rfl (fun ls hl => ?_)
          exact J75  _ (lv_sub hl [1, 2, 3, 4, 5, 6, 0] rfl)
    refine lv_iload_n S.1 S.2.1 dX6_ruleBrokenByPiece_21 rfl (lv_at hl 3 rfl) ?_
    refine ly_ifne (tgt := 43) S (nI_z2 (by omega)) (nI_z1 (by omega)) dX6_ruleBrokenByPiece_22 (by decide) (fun h10 => ?_) (fun h10 => ?_)
    · skip
      refine lv_iconst (v := nI 0) S.1 S.2.1 dX6_ruleBrokenByPiece_43 (by decide) ?_
      refine ly_top (z := bI (decide (x = 0) && !Nat.testBit (en (ci % 2 * 2)) (to - x))) (by rw [show (decide (x = 0) && !Nat.testBit (en (ci % 2 * 2)) (to - x)) = false from (an_0 h10)]; rfl) ?_
      refine lv_istore (lv' := [(5, .int (bI (decide (x = 0) && !Nat.testBit (en (ci % 2 * 2)) (to - x)))), (4, .int (nI (to - x))), (0, .ref (b 1)), (1, .int (nI ci)), (2, .int (nI x)), (3, .int (nI to))]) S.1 S.2.1 dX6_ruleBrokenByPiece_44 hl (by decide) rfl (fun ls hl => ?_)
      exact J46  _ (lv_sub hl [2, 3, 4, 5, 1, 0] rfl)
    · skip
      refine lv_aload_n S.1 S.2.1 dX6_ruleBrokenByPiece_25 rfl (lv_at hl 1 rfl) ?_
      refine g6 S hI 1 rfl 0 (by decide) tw_121 rfl dX6_ruleBrokenByPiece_26 ?_
      refine lv_iload_n S.1 S.2.1 dX6_ruleBrokenByPiece_29 rfl (lv_at hl 2 rfl) ?_
      refine lv_iconst (v := nI 0) S.1 S.2.1 dX6_ruleBrokenByPiece_30 (by decide) ?_
      refine lv_iload S.1 S.2.1 dX6_ruleBrokenByPiece_31 (lv_at hl 0 rfl) ?_
      refine kX0_mayEnd S hI hG (by omega) (by omega) (by omega) tw_389 (rok (by decide)) hl.1 (Nat.le_of_ble_eq_true rfl) dX6_ruleBrokenByPiece_33 ?_
      refine ly_top (z := (bI (Nat.testBit (en (ci % 2 * 2)) (to - x)))) rfl ?_
      refine ly_ifne (tgt := 43) S bI_e2 bI_e1 dX6_ruleBrokenByPiece_36 (by decide) (fun h11 => ?_) (fun h11 => ?_)
      · skip
        refine lv_iconst (v := nI 0) S.1 S.2.1 dX6_ruleBrokenByPiece_43 (by decide) ?_
        refine ly_top (z := bI (decide (x = 0) && !Nat.testBit (en (ci % 2 * 2)) (to - x))) (by rw [show (decide (x = 0) && !Nat.testBit (en (ci % 2 * 2)) (to - x)) = false from (an_1 h11)]; rfl) ?_
        refine lv_istore (lv' := [(5, .int (bI (decide (x = 0) && !Nat.testBit (en (ci % 2 * 2)) (to - x)))), (4, .int (nI (to - x))), (0, .ref (b 1)), (1, .int (nI ci)), (2, .int (nI x)), (3, .int (nI to))]) S.1 S.2.1 dX6_ruleBrokenByPiece_44 hl (by decide) rfl (fun ls hl => ?_)
        exact J46  _ (lv_sub hl [2, 3, 4, 5, 1, 0] rfl)
      · skip
        refine lv_iconst (v := nI 1) S.1 S.2.1 dX6_ruleBrokenByPiece_39 (by decide) ?_
        refine lv_goto (tgt := 44) S.1 S.2.1 dX6_ruleBrokenByPiece_40 (by decide) ?_
        refine ly_top (z := bI (decide (x = 0) && !Nat.testBit (en (ci % 2 * 2)) (to - x))) (by rw [show (decide (x = 0) && !Nat.testBit (en (ci % 2 * 2)) (to - x)) = true from (an_2 h10 h11)]; rfl) ?_
        refine lv_istore (lv' := [(5, .int (bI (decide (x = 0) && !Nat.testBit (en (ci % 2 * 2)) (to - x)))), (4, .int (nI (to - x))), (0, .ref (b 1)), (1, .int (nI ci)), (2, .int (nI x)), (3, .int (nI to))]) S.1 S.2.1 dX6_ruleBrokenByPiece_44 hl (by decide) rfl (fun ls hl => ?_)
        exact J46  _ (lv_sub hl [2, 3, 4, 5, 1, 0] rfl)
  · skip
    have r3 := ppI_n (L := to - x) gpr (by omega) h1
    refine lv_iconst (v := nI 3) S.1 S.2.1 dX6_ruleBrokenByPiece_19 (by decide) ?_
    exact rt_i S hr hlk (rb_3 r3) dX6_ruleBrokenByPiece_20
theorem kX6_ruleBrokenByPiece {p : Program} {l : Launch} {e : Env} {R : Room} {s : State} {m : MethodId} {args : Array Value} {below : List Frame} {meth : Method} {c : Code} {H : Heap} {locs : List Loc} {cells slots : Nat} {Q : State → Prop} {cc : ByteArray} {nL index pc : Nat} {own : String} {ls : Array Slot} {rest : List Value} {D : va_G} {K : Nat → ClassId} {b : Nat → Nat} {w n lap : Nat} {op mu ba la en : Nat → Nat} {pr : Nat → Option Nat} {fr : Bool} {co : Nat → Nat → Nat} {cw cj : Nat → Int64} {cl : Nat} {rv : Int64} {rc : Nat} {pj : Nat → Nat → Nat} {pw ch : Nat → Nat} {pl lc : Nat} {tl : Nat → Nat} {ci : Nat} {x : Nat} {to : Nat} (S : CallFix p m c cc nL s args lw_tb own) (hI : PI D K (cW K b w n lap op mu ba la en pr fr co cw cj cl rv rc pj pw ch pl lc tl) s H) (hG : GOK w n lap op mu ba la en pr) (hc : ci < n) (hx : x < to) (hto : to ≤ w) (hlink : Cond.methodLink own index yX6_ruleBrokenByPiece ∈ lw_tb) (hR : RO 1 R cells slots) (hsz : ls.size = nL) (hW : (rest.map fun v => v.category).sum ≤ 8) (hdg : decode cc pc = .ok (.invokevirtual index, 3)) (kk : W p l e R s m args below meth c H locs cells slots Q (F0 m (pc + 3) ls (.int (nI (rbP pr w (bl op ci) (en (ci % 2 * 2)) (en (ci % 2 * 2 + 1)) x (to - x))) :: rest))) : W p l e R s m args below meth c H locs cells slots Q (F0 m pc ls (.int (nI to) :: .int (nI x) :: .int (nI ci) :: .ref (b 1) :: rest)) :=
  kV (As := [.int (nI ci), .int (nI x), .int (nI to)]) (b := b 1) S (mX6_ruleBrokenByPiece l hG hc hx hto) hlink tw_386 tw_4 tw_43 tw_387 (by show _ ∧ _ ∧ _ = some 3; decide +kernel) (by decide) hR blP (piU hI) (va_recv hI.2 hI.1 (ci := 6) (q0 := 1) rfl rfl) hsz rfl hW hdg kk

set_option maxHeartbeats 4000000 in
set_option maxRecDepth 100000 in
theorem mX6_ruleBrokenByPieces (l : Launch) {D : va_G} {K : Nat → ClassId} {b : Nat → Nat} {w n lap : Nat} {op mu ba la en : Nat → Nat} {pr : Nat → Option Nat} {fr : Bool} {co : Nat → Nat → Nat} {cw cj : Nat → Int64} {cl : Nat} {rv : Int64} {rc : Nat} {pj : Nat → Nat → Nat} {pw ch : Nat → Nat} {pl lc : Nat} {tl : Nat → Nat} {ci : Nat} {j : Nat} (hG : GOK w n lap op mu ba la en pr) (hc : ci < n) (hj : j < 1024) : Met l yX6_ruleBrokenByPieces (TWd yX6_ruleBrokenByPieces cX6_ruleBrokenByPieces 9 (some .int)) (rmk 2) (va_Pc [.ref (b 1), .int (nI ci), .int (nI j)] (fun U => PI D K (cW K b w n lap op mu ba la en pr fr co cw cj cl rv rc pj pw ch pl lc tl) U U.heap)) (QcRead (nI (rpS pr w (op ci) (bl op ci) (en (ci % 2 * 2)) (en (ci % 2 * 2 + 1)) j w))) 0 0 (fun _ => False) := by
  refine mt_of (by decide +kernel) (Nat.le_of_ble_eq_true rfl) ?_
  intro p e s m below meth c S hr hlk hI ls hl
  have S : CallFix p m c cX6_ruleBrokenByPieces 9 s ([.ref (b 1), .int (nI ci), .int (nI j)] : List Value).toArray lw_tb RX6 := S
  have hl : lv_has ls 9 [(0, .ref (b 1)), (1, .int (nI ci)), (2, .int (nI j))] := hl
  obtain ⟨gw1, gw2, gn, gl1, gl2, gop, gmu, gba, gla, gen, gpr, gop2, gmu2, gba2, gla2, gme, gbe, gle, gee⟩ := id hG
  refine lv_aload_n S.1 S.2.1 dX6_ruleBrokenByPieces_0 rfl (lv_at hl 0 rfl) ?_
  refine lv_iload_n S.1 S.2.1 dX6_ruleBrokenByPieces_1 rfl (lv_at hl 1 rfl) ?_
  refine kX6_at_c S hI (by omega) (by omega) tw_383 (rok (by decide)) hl.1 (Nat.le_of_ble_eq_true rfl) dX6_ruleBrokenByPieces_2 ?_
  refine lv_astore_n (lv' := [(3, .ref (b (19 + ci))), (0, .ref (b 1)), (1, .int (nI ci)), (2, .int (nI j))]) S.1 S.2.1 dX6_ruleBrokenByPieces_5 rfl hl (by decide) rfl (fun ls hl => ?_)
  refine lv_aload_n S.1 S.2.1 dX6_ruleBrokenByPieces_6 rfl (lv_at hl 1 rfl) ?_
  refine lv_aload_n S.1 S.2.1 dX6_ruleBrokenByPieces_7 rfl (lv_at hl 0 rfl) ?_
  refine lv_iload_n S.1 S.2.1 dX6_ruleBrokenByPieces_8 rfl (lv_at hl 3 rfl) ?_
  refine kX6_bounds S hI hG (by first | omega | exact bwc_lt (by omega)) (by omega) tw_344 (rok (by decide)) hl.1 (Nat.le_of_ble_eq_true rfl) dX6_ruleBrokenByPieces_9 ?_
  have b1 : bnd w (gz op ci) j < 2048 := bnd_lt gw2 gop _ (by omega)
  rw [gzl (by omega)] at b1
  refine ly_top (z := (nI (bnd w (op ci) j))) (by rw [gzl (f := op) (by omega)]) ?_
  refine lv_istore (lv' := [(4, .int (nI (bnd w (op ci) j))), (3, .ref (b (19 + ci))), (0, .ref (b 1)), (1, .int (nI ci)), (2, .int (nI j))]) S.1 S.2.1 dX6_ruleBrokenByPieces_12 hl (by decide) rfl (fun ls hl => ?_)
  refine lv_iconst (v := nI 0) S.1 S.2.1 dX6_ruleBrokenByPieces_14 (by decide) ?_
  refine ly_top (z := (nI (rpS pr w (op ci) (bl op ci) (en (ci % 2 * 2)) (en (ci % 2 * 2 + 1)) j 0))) rfl ?_
  refine lv_istore (lv' := [(5, .int (nI (rpS pr w (op ci) (bl op ci) (en (ci % 2 * 2)) (en (ci % 2 * 2 + 1)) j 0))), (4, .int (nI (bnd w (op ci) j))), (3, .ref (b (19 + ci))), (0, .ref (b 1)), (1, .int (nI ci)), (2, .int (nI j))]) S.1 S.2.1 dX6_ruleBrokenByPieces_15 hl (by decide) rfl (fun ls hl => ?_)
  refine lv_iconst (v := nI 0) S.1 S.2.1 dX6_ruleBrokenByPieces_17 (by decide) ?_
  refine lv_istore (lv' := [(6, .int (nI 0)), (5, .int (nI (rpS pr w (op ci) (bl op ci) (en (ci % 2 * 2)) (en (ci % 2 * 2 + 1)) j 0))), (4, .int (nI (bnd w (op ci) j))), (3, .ref (b (19 + ci))), (0, .ref (b 1)), (1, .int (nI ci)), (2, .int (nI j))]) S.1 S.2.1 dX6_ruleBrokenByPieces_18 hl (by decide) rfl (fun ls hl => ?_)
  refine lv_iconst (v := nI 1) S.1 S.2.1 dX6_ruleBrokenByPieces_20 (by decide) ?_
  refine lv_istore (lv' := [(7, .int (nI 1)), (6, .int (nI 0)), (5, .int (nI (rpS pr w (op ci) (bl op ci) (en (ci % 2 * 2)) (en (ci % 2 * 2 + 1)) j 0))), (4, .int (nI (bnd w (op ci) j))), (3, .ref (b (19 + ci))), (0, .ref (b 1)), (1, .int (nI ci)), (2, .int (nI j))]) S.1 S.2.1 dX6_ruleBrokenByPieces_21 hl (by decide) rfl (fun ls hl => ?_)
  have L23 : ∀ (f23 : Nat) (xf : Nat) (to : Nat), (LB (bnd w (op ci) j) 0 xf to) → (to ≤ w + 1) → w + 1 - to < f23 → ∀ (ls : Array Slot), lv_has ls 9 [(0, .ref (b 1)), (1, .int (nI ci)), (2, .int (nI j)), (3, .ref (b (19 + ci))), (4, .int (nI (bnd w (op ci) j))), (5, .int (nI (rpS pr w (op ci) (bl op ci) (en (ci % 2 * 2)) (en (ci % 2 * 2 + 1)) j xf))), (6, .int (nI xf)), (7, .int (nI to))] → W p l e (rmk 2) s m ([.ref (b 1), .int (nI ci), .int (nI j)] : List Value).toArray below meth c s.heap [] 0 0 (MQ below (QcRead (nI (rpS pr w (op ci) (bl op ci) (en (ci % 2 * 2)) (en (ci % 2 * 2 + 1)) j w))) ([.ref (b 1), .int (nI ci), .int (nI j)] : List Value).toArray s 0 0 (fun _ => False)) (F0 m 23 ls []) := by
    intro f23
    induction f23 with
    | zero =>
      intro xf to i1 i2 hm
      exact absurd hm (Nat.not_lt_zero _)
    | succ f23 ih23 =>
      intro xf to i1 i2 hm23 ls hl
      have i3 := i1.2.1
      have i4 := rpS_le (pr := pr) (w := w) (o := op ci) (b := bl op ci) (e0 := en (ci % 2 * 2)) (e1 := en (ci % 2 * 2 + 1)) (j := j) (fr := xf)
      refine lv_iload S.1 S.2.1 dX6_ruleBrokenByPieces_23 (lv_at hl 7 rfl) ?_
      refine lv_aload_n S.1 S.2.1 dX6_ruleBrokenByPieces_25 rfl (lv_at hl 0 rfl) ?_
      refine g6 S hI 1 rfl 3 (by decide) tw_125 rfl dX6_ruleBrokenByPieces_26 ?_
      refine ly_cmgt (tgt := 97) S (nI_l1 (by omega) (by omega)) (nI_l2 (by omega) (by omega)) dX6_ruleBrokenByPieces_29 (by decide) (fun h2 => ?_) (fun h2 => ?_)
      · skip
        have et : to = w + 1 := by omega
        have ef : xf = w := by subst et; exact LB_end i1 bnd_w
        refine lv_iload S.1 S.2.1 dX6_ruleBrokenByPieces_97 (lv_at hl 5 rfl) ?_
        exact rt_i S hr hlk (by rw [ef]) dX6_ruleBrokenByPieces_99
      · skip
        refine lv_iload S.1 S.2.1 dX6_ruleBrokenByPieces_32 (lv_at hl 4 rfl) ?_
        refine lv_iload S.1 S.2.1 dX6_ruleBrokenByPieces_34 (lv_at hl 7 rfl) ?_
        refine lv_ishr S.1 S.2.1 dX6_ruleBrokenByPieces_36 ?_
        refine ly_top (z := nI ((bnd w (op ci) j) >>> to)) (nI_shr (by omega) (by omega)) ?_
        refine lv_iconst (v := nI 1) S.1 S.2.1 dX6_ruleBrokenByPieces_37 (by decide) ?_
        refine lv_iand S.1 S.2.1 dX6_ruleBrokenByPieces_38 ?_
        refine ly_top (z := nI (((bnd w (op ci) j) >>> to) &&& 1)) (nI_and (Nat.lt_of_le_of_lt (Nat.shiftRight_le _ _) (by omega)) (by omega)) ?_
        refine ly_top (z := (nI (((bnd w (op ci) j) >>> to) % 2))) (by rw [and1]) ?_
        have q36 : ((bnd w (op ci) j) >>> to) % 2 < 2 := Nat.mod_lt _ (by decide)
        refine ly_ifeq (tgt := 91) S (nI_z1 (by omega)) (nI_z2 (by omega)) dX6_ruleBrokenByPieces_39 (by decide) (fun h3 => ?_) (fun h3 => ?_)
        · skip
          refine lv_iinc (v := nI (to + 1)) (lv' := [(7, .int (nI (to + 1))), (0, .ref (b 1)), (1, .int (nI ci)), (2, .int (nI j)), (3, .ref (b (19 + ci))), (4, .int (nI (bnd w (op ci) j))), (5, .int (nI (rpS pr w (op ci) (bl op ci) (en (ci % 2 * 2)) (en (ci % 2 * 2 + 1)) j xf))), (6, .int (nI xf))]) S.1 S.2.1 dX6_ruleBrokenByPieces_91 hl (k := 7) rfl (nJ_in _ _) (by decide) rfl (fun ls hl => ?_)
          refine lv_goto (tgt := 23) S.1 S.2.1 dX6_ruleBrokenByPieces_94 (by decide) ?_
          exact ih23 xf (to + 1) (LB_f i1 (tb0 (by omega))) (by omega) (by omega) _ (lv_sub hl [1, 2, 3, 4, 5, 6, 7, 0] rfl)
        · skip
          have tb : (bnd w (op ci) j).testBit to = true := tb1 (by omega)
          refine lv_aload_n S.1 S.2.1 dX6_ruleBrokenByPieces_42 rfl (lv_at hl 3 rfl) ?_
          refine lv_iload S.1 S.2.1 dX6_ruleBrokenByPieces_43 (lv_at hl 6 rfl) ?_
          refine kX2_isOpen S hI hG (by first | omega | exact bwc_lt (by omega)) (by omega) tw_352 (rok (by decide)) hl.1 (Nat.le_of_ble_eq_true rfl) dX6_ruleBrokenByPieces_45 ?_
          refine ly_top (z := (bI (Nat.testBit (op ci) xf))) (by rw [gzl (f := op) (by omega)]) ?_
          refine ly_ifeq (tgt := 55) S bI_e1 bI_e2 dX6_ruleBrokenByPieces_48 (by decide) (fun h4 => ?_) (fun h4 => ?_)
          · skip
            refine lv_aload_n S.1 S.2.1 dX6_ruleBrokenByPieces_55 rfl (lv_at hl 0 rfl) ?_
            refine lv_iload_n S.1 S.2.1 dX6_ruleBrokenByPieces_56 rfl (lv_at hl 1 rfl) ?_
            refine lv_iload S.1 S.2.1 dX6_ruleBrokenByPieces_57 (lv_at hl 6 rfl) ?_
            refine lv_iload S.1 S.2.1 dX6_ruleBrokenByPieces_59 (lv_at hl 7 rfl) ?_
            refine kX6_ruleBrokenByPiece S hI hG (by omega) (by omega) (by omega) tw_384 (rok (by decide)) hl.1 (Nat.le_of_ble_eq_true rfl) dX6_ruleBrokenByPieces_61 ?_
            have b5 : rbP pr w (bl op ci) (en (ci % 2 * 2)) (en (ci % 2 * 2 + 1)) xf (to - xf) ≤ 6 := rbP_le
            refine lv_istore (lv' := [(8, .int (nI (rbP pr w (bl op ci) (en (ci % 2 * 2)) (en (ci % 2 * 2 + 1)) xf (to - xf)))), (0, .ref (b 1)), (1, .int (nI ci)), (2, .int (nI j)), (3, .ref (b (19 + ci))), (4, .int (nI (bnd w (op ci) j))), (5, .int (nI (rpS pr w (op ci) (bl op ci) (en (ci % 2 * 2)) (en (ci % 2 * 2 + 1)) j xf))), (6, .int (nI xf)), (7, .int (nI to))]) S.1 S.2.1 dX6_ruleBrokenByPieces_64 hl (by decide) rfl (fun ls hl => ?_)
            refine lv_iload S.1 S.2.1 dX6_ruleBrokenByPieces_66 (lv_at hl 0 rfl) ?_
            refine ly_ifeq (tgt := 87) S (nI_z1 (by omega)) (nI_z2 (by omega)) dX6_ruleBrokenByPieces_68 (by decide) (fun h6 => ?_) (fun h6 => ?_)
            · skip
              rw [show nI (rpS pr w (op ci) (bl op ci) (en (ci % 2 * 2)) (en (ci % 2 * 2 + 1)) j xf) = nI (rpS pr w (op ci) (bl op ci) (en (ci % 2 * 2)) (en (ci % 2 * 2 + 1)) j to) from congrArg nI (rp_z i1 (by omega) tb h4 h6)] at hl
              refine lv_iload S.1 S.2.1 dX6_ruleBrokenByPieces_87 (lv_at hl 8 rfl) ?_
              refine lv_istore (lv' := [(6, .int (nI to)), (8, .int (nI (rbP pr w (bl op ci) (en (ci % 2 * 2)) (en (ci % 2 * 2 + 1)) xf (to - xf)))), (0, .ref (b 1)), (1, .int (nI ci)), (2, .int (nI j)), (3, .ref (b (19 + ci))), (4, .int (nI (bnd w (op ci) j))), (5, .int (nI (rpS pr w (op ci) (bl op ci) (en (ci % 2 * 2)) (en (ci % 2 * 2 + 1)) j to))), (7, .int (nI to))]) S.1 S.2.1 dX6_ruleBrokenByPieces_89 hl (by decide) rfl (fun ls hl => ?_)
              refine lv_iinc (v := nI (to + 1)) (lv' := [(7, .int (nI (to + 1))), (6, .int (nI to)), (8, .int (nI (rbP pr w (bl op ci) (en (ci % 2 * 2)) (en (ci % 2 * 2 + 1)) xf (to - xf)))), (0, .ref (b 1)), (1, .int (nI ci)), (2, .int (nI j)), (3, .ref (b (19 + ci))), (4, .int (nI (bnd w (op ci) j))), (5, .int (nI (rpS pr w (op ci) (bl op ci) (en (ci % 2 * 2)) (en (ci % 2 * 2 + 1)) j to)))]) S.1 S.2.1 dX6_ruleBrokenByPieces_91 hl (k := 8) rfl (nJ_in _ _) (by decide) rfl (fun ls hl => ?_)
              refine lv_goto (tgt := 23) S.1 S.2.1 dX6_ruleBrokenByPieces_94 (by decide) ?_
              exact ih23 to (to + 1) (LB_t i1 tb) (by omega) (by omega) _ (lv_sub hl [3, 4, 5, 6, 7, 8, 1, 0] rfl)
            · skip
              refine lv_iload S.1 S.2.1 dX6_ruleBrokenByPieces_71 (lv_at hl 6 rfl) ?_
              refine ly_ifeq (tgt := 83) S (nI_z1 (by omega)) (nI_z2 (by omega)) dX6_ruleBrokenByPieces_73 (by decide) (fun h7 => ?_) (fun h7 => ?_)
              · skip
                refine lv_iload S.1 S.2.1 dX6_ruleBrokenByPieces_83 (lv_at hl 0 rfl) ?_
                refine ly_top (z := nI (rpS pr w (op ci) (bl op ci) (en (ci % 2 * 2)) (en (ci % 2 * 2 + 1)) j to)) (congrArg nI (rp_n0 i1 (by omega) tb h4 h6 h7)) ?_
                refine lv_istore (lv' := [(5, .int (nI (rpS pr w (op ci) (bl op ci) (en (ci % 2 * 2)) (en (ci % 2 * 2 + 1)) j to))), (8, .int (nI (rbP pr w (bl op ci) (en (ci % 2 * 2)) (en (ci % 2 * 2 + 1)) xf (to - xf)))), (0, .ref (b 1)), (1, .int (nI ci)), (2, .int (nI j)), (3, .ref (b (19 + ci))), (4, .int (nI (bnd w (op ci) j))), (6, .int (nI xf)), (7, .int (nI to))]) S.1 S.2.1 dX6_ruleBrokenByPieces_85 hl (by decide) rfl (fun ls hl => ?_)
                refine lv_iload S.1 S.2.1 dX6_ruleBrokenByPieces_87 (lv_at hl 8 rfl) ?_
                refine lv_istore (lv' := [(6, .int (nI to)), (5, .int (nI (rpS pr w (op ci) (bl op ci) (en (ci % 2 * 2)) (en (ci % 2 * 2 + 1)) j to))), (8, .int (nI (rbP pr w (bl op ci) (en (ci % 2 * 2)) (en (ci % 2 * 2 + 1)) xf (to - xf)))), (0, .ref (b 1)), (1, .int (nI ci)), (2, .int (nI j)), (3, .ref (b (19 + ci))), (4, .int (nI (bnd w (op ci) j))), (7, .int (nI to))]) S.1 S.2.1 dX6_ruleBrokenByPieces_89 hl (by decide) rfl (fun ls hl => ?_)
                refine lv_iinc (v := nI (to + 1)) (lv' := [(7, .int (nI (to + 1))), (6, .int (nI to)), (5, .int (nI (rpS pr w (op ci) (bl op ci) (en (ci % 2 * 2)) (en (ci % 2 * 2 + 1)) j to))), (8, .int (nI (rbP pr w (bl op ci) (en (ci % 2 * 2)) (en (ci % 2 * 2 + 1)) xf (to - xf)))), (0, .ref (b 1)), (1, .int (nI ci)), (2, .int (nI j)), (3, .ref (b (19 + ci))), (4, .int (nI (bnd w (op ci) j)))]) S.1 S.2.1 dX6_ruleBrokenByPieces_91 hl (k := 8) rfl (nJ_in _ _) (by decide) rfl (fun ls hl => ?_)
                refine lv_goto (tgt := 23) S.1 S.2.1 dX6_ruleBrokenByPieces_94 (by decide) ?_
                exact ih23 to (to + 1) (LB_t i1 tb) (by omega) (by omega) _ (lv_sub hl [4, 5, 6, 7, 8, 2, 1, 0] rfl)
              · skip
                refine lv_iload S.1 S.2.1 dX6_ruleBrokenByPieces_76 (lv_at hl 0 rfl) ?_
                refine lv_iload S.1 S.2.1 dX6_ruleBrokenByPieces_78 (lv_at hl 6 rfl) ?_
                refine ly_cmge (tgt := 87) S (nI_le1 (by omega) (by omega)) (nI_le2 (by omega) (by omega)) dX6_ruleBrokenByPieces_80 (by decide) (fun h8 => ?_) (fun h8 => ?_)
                · skip
                  rw [show nI (rpS pr w (op ci) (bl op ci) (en (ci % 2 * 2)) (en (ci % 2 * 2 + 1)) j xf) = nI (rpS pr w (op ci) (bl op ci) (en (ci % 2 * 2)) (en (ci % 2 * 2 + 1)) j to) from congrArg nI (rp_k i1 (by omega) tb h4 h7 h8)] at hl
                  refine lv_iload S.1 S.2.1 dX6_ruleBrokenByPieces_87 (lv_at hl 8 rfl) ?_
                  refine lv_istore (lv' := [(6, .int (nI to)), (8, .int (nI (rbP pr w (bl op ci) (en (ci % 2 * 2)) (en (ci % 2 * 2 + 1)) xf (to - xf)))), (0, .ref (b 1)), (1, .int (nI ci)), (2, .int (nI j)), (3, .ref (b (19 + ci))), (4, .int (nI (bnd w (op ci) j))), (5, .int (nI (rpS pr w (op ci) (bl op ci) (en (ci % 2 * 2)) (en (ci % 2 * 2 + 1)) j to))), (7, .int (nI to))]) S.1 S.2.1 dX6_ruleBrokenByPieces_89 hl (by decide) rfl (fun ls hl => ?_)
                  refine lv_iinc (v := nI (to + 1)) (lv' := [(7, .int (nI (to + 1))), (6, .int (nI to)), (8, .int (nI (rbP pr w (bl op ci) (en (ci % 2 * 2)) (en (ci % 2 * 2 + 1)) xf (to - xf)))), (0, .ref (b 1)), (1, .int (nI ci)), (2, .int (nI j)), (3, .ref (b (19 + ci))), (4, .int (nI (bnd w (op ci) j))), (5, .int (nI (rpS pr w (op ci) (bl op ci) (en (ci % 2 * 2)) (en (ci % 2 * 2 + 1)) j to)))]) S.1 S.2.1 dX6_ruleBrokenByPieces_91 hl (k := 8) rfl (nJ_in _ _) (by decide) rfl (fun ls hl => ?_)
                  refine lv_goto (tgt := 23) S.1 S.2.1 dX6_ruleBrokenByPieces_94 (by decide) ?_
                  exact ih23 to (to + 1) (LB_t i1 tb) (by omega) (by omega) _ (lv_sub hl [3, 4, 5, 6, 7, 8, 1, 0] rfl)
                · skip
                  refine lv_iload S.1 S.2.1 dX6_ruleBrokenByPieces_83 (lv_at hl 0 rfl) ?_
                  refine ly_top (z := nI (rpS pr w (op ci) (bl op ci) (en (ci % 2 * 2)) (en (ci % 2 * 2 + 1)) j to)) (congrArg nI (rp_n1 i1 (by omega) tb h4 h6 h8)) ?_
                  refine lv_istore (lv' := [(5, .int (nI (rpS pr w (op ci) (bl op ci) (en (ci % 2 * 2)) (en (ci % 2 * 2 + 1)) j to))), (8, .int (nI (rbP pr w (bl op ci) (en (ci % 2 * 2)) (en (ci % 2 * 2 + 1)) xf (to - xf)))), (0, .ref (b 1)), (1, .int (nI ci)), (2, .int (nI j)), (3, .ref (b (19 + ci))), (4, .int (nI (bnd w (op ci) j))), (6, .int (nI xf)), (7, .int (nI to))]) S.1 S.2.1 dX6_ruleBrokenByPieces_85 hl (by decide) rfl (fun ls hl => ?_)
                  refine lv_iload S.1 S.2.1 dX6_ruleBrokenByPieces_87 (lv_at hl 8 rfl) ?_
                  refine lv_istore (lv' := [(6, .int (nI to)), (5, .int (nI (rpS pr w (op ci) (bl op ci) (en (ci % 2 * 2)) (en (ci % 2 * 2 + 1)) j to))), (8, .int (nI (rbP pr w (bl op ci) (en (ci % 2 * 2)) (en (ci % 2 * 2 + 1)) xf (to - xf)))), (0, .ref (b 1)), (1, .int (nI ci)), (2, .int (nI j)), (3, .ref (b (19 + ci))), (4, .int (nI (bnd w (op ci) j))), (7, .int (nI to))]) S.1 S.2.1 dX6_ruleBrokenByPieces_89 hl (by decide) rfl (fun ls hl => ?_)
                  refine lv_iinc (v := nI (to + 1)) (lv' := [(7, .int (nI (to + 1))), (6, .int (nI to)), (5, .int (nI (rpS pr w (op ci) (bl op ci) (en (ci % 2 * 2)) (en (ci % 2 * 2 + 1)) j to))), (8, .int (nI (rbP pr w (bl op ci) (en (ci % 2 * 2)) (en (ci % 2 * 2 + 1)) xf (to - xf)))), (0, .ref (b 1)), (1, .int (nI ci)), (2, .int (nI j)), (3, .ref (b (19 + ci))), (4, .int (nI (bnd w (op ci) j)))]) S.1 S.2.1 dX6_ruleBrokenByPieces_91 hl (k := 8) rfl (nJ_in _ _) (by decide) rfl (fun ls hl => ?_)
                  refine lv_goto (tgt := 23) S.1 S.2.1 dX6_ruleBrokenByPieces_94 (by decide) ?_
                  exact ih23 to (to + 1) (LB_t i1 tb) (by omega) (by omega) _ (lv_sub hl [4, 5, 6, 7, 8, 2, 1, 0] rfl)
          · skip
            refine lv_iconst (v := nI 0) S.1 S.2.1 dX6_ruleBrokenByPieces_51 (by decide) ?_
            refine lv_goto (tgt := 64) S.1 S.2.1 dX6_ruleBrokenByPieces_52 (by decide) ?_
            refine lv_istore (lv' := [(8, .int (nI 0)), (0, .ref (b 1)), (1, .int (nI ci)), (2, .int (nI j)), (3, .ref (b (19 + ci))), (4, .int (nI (bnd w (op ci) j))), (5, .int (nI (rpS pr w (op ci) (bl op ci) (en (ci % 2 * 2)) (en (ci % 2 * 2 + 1)) j xf))), (6, .int (nI xf)), (7, .int (nI to))]) S.1 S.2.1 dX6_ruleBrokenByPieces_64 hl (by decide) rfl (fun ls hl => ?_)
            refine lv_iload S.1 S.2.1 dX6_ruleBrokenByPieces_66 (lv_at hl 0 rfl) ?_
            refine ly_ifeq (tgt := 87) S (nI_z1 (by omega)) (nI_z2 (by omega)) dX6_ruleBrokenByPieces_68 (by decide) (fun h9 => ?_) (fun h9 => ?_)
            · skip
              rw [show nI (rpS pr w (op ci) (bl op ci) (en (ci % 2 * 2)) (en (ci % 2 * 2 + 1)) j xf) = nI (rpS pr w (op ci) (bl op ci) (en (ci % 2 * 2)) (en (ci % 2 * 2 + 1)) j to) from congrArg nI (rpS_o i1 (by omega) tb h4)] at hl
              refine lv_iload S.1 S.2.1 dX6_ruleBrokenByPieces_87 (lv_at hl 8 rfl) ?_
              refine lv_istore (lv' := [(6, .int (nI to)), (8, .int (nI 0)), (0, .ref (b 1)), (1, .int (nI ci)), (2, .int (nI j)), (3, .ref (b (19 + ci))), (4, .int (nI (bnd w (op ci) j))), (5, .int (nI (rpS pr w (op ci) (bl op ci) (en (ci % 2 * 2)) (en (ci % 2 * 2 + 1)) j to))), (7, .int (nI to))]) S.1 S.2.1 dX6_ruleBrokenByPieces_89 hl (by decide) rfl (fun ls hl => ?_)
              refine lv_iinc (v := nI (to + 1)) (lv' := [(7, .int (nI (to + 1))), (6, .int (nI to)), (8, .int (nI 0)), (0, .ref (b 1)), (1, .int (nI ci)), (2, .int (nI j)), (3, .ref (b (19 + ci))), (4, .int (nI (bnd w (op ci) j))), (5, .int (nI (rpS pr w (op ci) (bl op ci) (en (ci % 2 * 2)) (en (ci % 2 * 2 + 1)) j to)))]) S.1 S.2.1 dX6_ruleBrokenByPieces_91 hl (k := 8) rfl (nJ_in _ _) (by decide) rfl (fun ls hl => ?_)
              refine lv_goto (tgt := 23) S.1 S.2.1 dX6_ruleBrokenByPieces_94 (by decide) ?_
              exact ih23 to (to + 1) (LB_t i1 tb) (by omega) (by omega) _ (lv_sub hl [3, 4, 5, 6, 7, 8, 1, 0] rfl)
            · skip
              exact absurd rfl h9
  exact L23 _ 0 1 LB_0 (by omega) (Nat.lt_succ_self _) _ (lv_sub hl [5, 6, 7, 4, 3, 2, 1, 0] rfl)
theorem kX6_ruleBrokenByPieces {p : Program} {l : Launch} {e : Env} {R : Room} {s : State} {m : MethodId} {args : Array Value} {below : List Frame} {meth : Method} {c : Code} {H : Heap} {locs : List Loc} {cells slots : Nat} {Q : State → Prop} {cc : ByteArray} {nL index pc : Nat} {own : String} {ls : Array Slot} {rest : List Value} {D : va_G} {K : Nat → ClassId} {b : Nat → Nat} {w n lap : Nat} {op mu ba la en : Nat → Nat} {pr : Nat → Option Nat} {fr : Bool} {co : Nat → Nat → Nat} {cw cj : Nat → Int64} {cl : Nat} {rv : Int64} {rc : Nat} {pj : Nat → Nat → Nat} {pw ch : Nat → Nat} {pl lc : Nat} {tl : Nat → Nat} {ci : Nat} {j : Nat} (S : CallFix p m c cc nL s args lw_tb own) (hI : PI D K (cW K b w n lap op mu ba la en pr fr co cw cj cl rv rc pj pw ch pl lc tl) s H) (hG : GOK w n lap op mu ba la en pr) (hc : ci < n) (hj : j < 1024) (hlink : Cond.methodLink own index yX6_ruleBrokenByPieces ∈ lw_tb) (hR : RO 2 R cells slots) (hsz : ls.size = nL) (hW : (rest.map fun v => v.category).sum ≤ 8) (hdg : decode cc pc = .ok (.invokevirtual index, 3)) (kk : W p l e R s m args below meth c H locs cells slots Q (F0 m (pc + 3) ls (.int (nI (rpS pr w (op ci) (bl op ci) (en (ci % 2 * 2)) (en (ci % 2 * 2 + 1)) j w)) :: rest))) : W p l e R s m args below meth c H locs cells slots Q (F0 m pc ls (.int (nI j) :: .int (nI ci) :: .ref (b 1) :: rest)) :=
  kV (As := [.int (nI ci), .int (nI j)]) (b := b 1) S (mX6_ruleBrokenByPieces l hG hc hj) hlink tw_542 tw_12 tw_43 tw_543 (by show _ ∧ _ ∧ _ = some 2; decide +kernel) (by decide) hR blP (piU hI) (va_recv hI.2 hI.1 (ci := 6) (q0 := 1) rfl rfl) hsz rfl hW hdg kk

set_option maxHeartbeats 4000000 in
set_option maxRecDepth 100000 in
theorem mX6_costBetween (l : Launch) {D : va_G} {K : Nat → ClassId} {b : Nat → Nat} {w n lap : Nat} {op mu ba la en : Nat → Nat} {pr : Nat → Option Nat} {fr : Bool} {co : Nat → Nat → Nat} {cw cj : Nat → Int64} {cl : Nat} {rv : Int64} {rc : Nat} {pj : Nat → Nat → Nat} {pw ch : Nat → Nat} {pl lc : Nat} {tl : Nat → Nat} {ci : Nat} {lo : Nat} {hi : Nat} (hG : GOK w n lap op mu ba la en pr) (hc : ci < n) (hlo : lo < hi) (hhi : hi ≤ w) : Met l yX6_costBetween (TWd yX6_costBetween cX6_costBetween 9 (some .int)) (rmk 2) (va_Pc [.ref (b 1), .int (nI ci), .int (nI lo), .int (nI hi)] (fun U => PI D K (cW K b w n lap op mu ba la en pr fr co cw cj cl rv rc pj pw ch pl lc tl) U U.heap)) (QcRead (nI (cbF pr w (op ci) (bl op ci) (en (ci % 2 * 2)) (en (ci % 2 * 2 + 1)) lo hi))) 0 0 (fun _ => False) := by
  refine mt_of (by decide +kernel) (Nat.le_of_ble_eq_true rfl) ?_
  intro p e s m below meth c S hr hlk hI ls hl
  have S : CallFix p m c cX6_costBetween 9 s ([.ref (b 1), .int (nI ci), .int (nI lo), .int (nI hi)] : List Value).toArray lw_tb RX6 := S
  have hl : lv_has ls 9 [(0, .ref (b 1)), (1, .int (nI ci)), (2, .int (nI lo)), (3, .int (nI hi))] := hl
  obtain ⟨gw1, gw2, gn, gl1, gl2, gop, gmu, gba, gla, gen, gpr, gop2, gmu2, gba2, gla2, gme, gbe, gle, gee⟩ := id hG
  have ph : 2 ^ hi ≤ 2 ^ 10 := Nat.pow_le_pow_right (by decide) (by omega)
  refine lv_aload_n S.1 S.2.1 dX6_costBetween_0 rfl (lv_at hl 0 rfl) ?_
  refine lv_iload_n S.1 S.2.1 dX6_costBetween_1 rfl (lv_at hl 1 rfl) ?_
  refine kX6_at_c S hI (by omega) (by omega) tw_383 (rok (by decide)) hl.1 (Nat.le_of_ble_eq_true rfl) dX6_costBetween_2 ?_
  refine lv_astore (lv' := [(4, .ref (b (19 + ci))), (0, .ref (b 1)), (1, .int (nI ci)), (2, .int (nI lo)), (3, .int (nI hi))]) S.1 S.2.1 dX6_costBetween_5 hl (by decide) rfl (fun ls hl => ?_)
  refine lv_aload_n S.1 S.2.1 dX6_costBetween_7 rfl (lv_at hl 1 rfl) ?_
  refine lv_aload S.1 S.2.1 dX6_costBetween_8 (lv_at hl 0 rfl) ?_
  refine lv_iconst (v := nI 1) S.1 S.2.1 dX6_costBetween_10 (by decide) ?_
  refine lv_iload_n S.1 S.2.1 dX6_costBetween_11 rfl (lv_at hl 4 rfl) ?_
  refine lv_ishl S.1 S.2.1 dX6_costBetween_12 ?_
  refine ly_top (z := nI (1 <<< hi)) (nI_shl (by omega) (by rw [Nat.one_shiftLeft]; omega)) ?_
  refine ly_top (z := (nI (2 ^ hi))) (Nat.one_shiftLeft hi ▸ rfl) ?_
  refine kX6_bounds S hI hG (by first | omega | exact bwc_lt (by omega)) (by omega) tw_344 (rok (by decide)) hl.1 (Nat.le_of_ble_eq_true rfl) dX6_costBetween_13 ?_
  have b1 : bnd w (gz op ci) (2 ^ hi) < 2048 := bnd_lt gw2 gop _ (by omega)
  rw [gzl (by omega)] at b1
  refine ly_top (z := (nI (bnd w (op ci) (2 ^ hi)))) (by rw [gzl (f := op) (by omega)]) ?_
  refine lv_istore (lv' := [(5, .int (nI (bnd w (op ci) (2 ^ hi)))), (4, .ref (b (19 + ci))), (0, .ref (b 1)), (1, .int (nI ci)), (2, .int (nI lo)), (3, .int (nI hi))]) S.1 S.2.1 dX6_costBetween_16 hl (by decide) rfl (fun ls hl => ?_)
  refine lv_iconst (v := nI 0) S.1 S.2.1 dX6_costBetween_18 (by decide) ?_
  refine ly_top (z := (nI (cbS pr w (op ci) (bl op ci) (en (ci % 2 * 2)) (en (ci % 2 * 2 + 1)) lo hi lo))) (by rw [cbS_lo]) ?_
  refine lv_istore (lv' := [(6, .int (nI (cbS pr w (op ci) (bl op ci) (en (ci % 2 * 2)) (en (ci % 2 * 2 + 1)) lo hi lo))), (5, .int (nI (bnd w (op ci) (2 ^ hi)))), (4, .ref (b (19 + ci))), (0, .ref (b 1)), (1, .int (nI ci)), (2, .int (nI lo)), (3, .int (nI hi))]) S.1 S.2.1 dX6_costBetween_19 hl (by decide) rfl (fun ls hl => ?_)
  refine lv_iload_n S.1 S.2.1 dX6_costBetween_21 rfl (lv_at hl 5 rfl) ?_
  refine lv_istore (lv' := [(7, .int (nI lo)), (6, .int (nI (cbS pr w (op ci) (bl op ci) (en (ci % 2 * 2)) (en (ci % 2 * 2 + 1)) lo hi lo))), (5, .int (nI (bnd w (op ci) (2 ^ hi)))), (4, .ref (b (19 + ci))), (0, .ref (b 1)), (1, .int (nI ci)), (2, .int (nI lo)), (3, .int (nI hi))]) S.1 S.2.1 dX6_costBetween_22 hl (by decide) rfl (fun ls hl => ?_)
  refine lv_iload_n S.1 S.2.1 dX6_costBetween_24 rfl (lv_at hl 6 rfl) ?_
  refine lv_iconst (v := nI 1) S.1 S.2.1 dX6_costBetween_25 (by decide) ?_
  refine lv_iadd S.1 S.2.1 dX6_costBetween_26 ?_
  refine ly_top (z := nI (lo + 1)) (nI_add _ _) ?_
  refine lv_istore (lv' := [(8, .int (nI (lo + 1))), (7, .int (nI lo)), (6, .int (nI (cbS pr w (op ci) (bl op ci) (en (ci % 2 * 2)) (en (ci % 2 * 2 + 1)) lo hi lo))), (5, .int (nI (bnd w (op ci) (2 ^ hi)))), (4, .ref (b (19 + ci))), (0, .ref (b 1)), (1, .int (nI ci)), (2, .int (nI lo)), (3, .int (nI hi))]) S.1 S.2.1 dX6_costBetween_27 hl (by decide) rfl (fun ls hl => ?_)
  have L29 : ∀ (f29 : Nat) (xf : Nat) (to : Nat), (LB (bnd w (op ci) (2 ^ hi)) lo xf to) → (to ≤ hi + 1) → (cbS pr w (op ci) (bl op ci) (en (ci % 2 * 2)) (en (ci % 2 * 2 + 1)) lo hi xf ≤ 100 * (xf - lo)) → hi + 1 - to < f29 → ∀ (ls : Array Slot), lv_has ls 9 [(0, .ref (b 1)), (1, .int (nI ci)), (2, .int (nI lo)), (3, .int (nI hi)), (4, .ref (b (19 + ci))), (5, .int (nI (bnd w (op ci) (2 ^ hi)))), (6, .int (nI (cbS pr w (op ci) (bl op ci) (en (ci % 2 * 2)) (en (ci % 2 * 2 + 1)) lo hi xf))), (7, .int (nI xf)), (8, .int (nI to))] → W p l e (rmk 2) s m ([.ref (b 1), .int (nI ci), .int (nI lo), .int (nI hi)] : List Value).toArray below meth c s.heap [] 0 0 (MQ below (QcRead (nI (cbF pr w (op ci) (bl op ci) (en (ci % 2 * 2)) (en (ci % 2 * 2 + 1)) lo hi))) ([.ref (b 1), .int (nI ci), .int (nI lo), .int (nI hi)] : List Value).toArray s 0 0 (fun _ => False)) (F0 m 29 ls []) := by
    intro f29
    induction f29 with
    | zero =>
      intro xf to i1 i2 i5 hm
      exact absurd hm (Nat.not_lt_zero _)
    | succ f29 ih29 =>
      intro xf to i1 i2 i5 hm29 ls hl
      have i3 := i1.2.1
      have i4 := i1.1
      refine lv_iload S.1 S.2.1 dX6_costBetween_29 (lv_at hl 8 rfl) ?_
      refine lv_iload_n S.1 S.2.1 dX6_costBetween_31 rfl (lv_at hl 3 rfl) ?_
      refine ly_cmgt (tgt := 97) S (nI_l1 (by omega) (by omega)) (nI_l2 (by omega) (by omega)) dX6_costBetween_32 (by decide) (fun h2 => ?_) (fun h2 => ?_)
      · skip
        have et : to = hi + 1 := by omega
        have ef : xf = hi := by subst et; exact LB_end i1 (bnd_j rfl)
        refine lv_iload S.1 S.2.1 dX6_costBetween_97 (lv_at hl 6 rfl) ?_
        exact rt_i S hr hlk (by rw [ef] at i5 ⊢; rw [cbF, Nat.min_eq_right (by omega)]) dX6_costBetween_99
      · skip
        refine lv_iload S.1 S.2.1 dX6_costBetween_35 (lv_at hl 5 rfl) ?_
        refine lv_iload S.1 S.2.1 dX6_costBetween_37 (lv_at hl 8 rfl) ?_
        refine lv_ishr S.1 S.2.1 dX6_costBetween_39 ?_
        refine ly_top (z := nI ((bnd w (op ci) (2 ^ hi)) >>> to)) (nI_shr (by omega) (by omega)) ?_
        refine lv_iconst (v := nI 1) S.1 S.2.1 dX6_costBetween_40 (by decide) ?_
        refine lv_iand S.1 S.2.1 dX6_costBetween_41 ?_
        refine ly_top (z := nI (((bnd w (op ci) (2 ^ hi)) >>> to) &&& 1)) (nI_and (Nat.lt_of_le_of_lt (Nat.shiftRight_le _ _) (by omega)) (by omega)) ?_
        refine ly_top (z := (nI (((bnd w (op ci) (2 ^ hi)) >>> to) % 2))) (by rw [and1]) ?_
        have q39 : ((bnd w (op ci) (2 ^ hi)) >>> to) % 2 < 2 := Nat.mod_lt _ (by decide)
        refine ly_ifeq (tgt := 91) S (nI_z1 (by omega)) (nI_z2 (by omega)) dX6_costBetween_42 (by decide) (fun h3 => ?_) (fun h3 => ?_)
        · skip
          refine lv_iinc (v := nI (to + 1)) (lv' := [(8, .int (nI (to + 1))), (0, .ref (b 1)), (1, .int (nI ci)), (2, .int (nI lo)), (3, .int (nI hi)), (4, .ref (b (19 + ci))), (5, .int (nI (bnd w (op ci) (2 ^ hi)))), (6, .int (nI (cbS pr w (op ci) (bl op ci) (en (ci % 2 * 2)) (en (ci % 2 * 2 + 1)) lo hi xf))), (7, .int (nI xf))]) S.1 S.2.1 dX6_costBetween_91 hl (k := 8) rfl (nJ_in _ _) (by decide) rfl (fun ls hl => ?_)
          refine lv_goto (tgt := 29) S.1 S.2.1 dX6_costBetween_94 (by decide) ?_
          exact ih29 xf (to + 1) (LB_f i1 (tb0 (by omega))) (by omega) i5 (by omega) _ (lv_sub hl [1, 2, 3, 4, 5, 6, 7, 8, 0] rfl)
        · skip
          have tb : (bnd w (op ci) (2 ^ hi)).testBit to = true := tb1 (by omega)
          refine lv_aload S.1 S.2.1 dX6_costBetween_45 (lv_at hl 4 rfl) ?_
          refine lv_iload S.1 S.2.1 dX6_costBetween_47 (lv_at hl 7 rfl) ?_
          refine kX2_isOpen S hI hG (by first | omega | exact bwc_lt (by omega)) (by omega) tw_352 (rok (by decide)) hl.1 (Nat.le_of_ble_eq_true rfl) dX6_costBetween_49 ?_
          refine ly_top (z := (bI (Nat.testBit (op ci) xf))) (by rw [gzl (f := op) (by omega)]) ?_
          refine ly_ifne (tgt := 87) S bI_e2 bI_e1 dX6_costBetween_52 (by decide) (fun h4 => ?_) (fun h4 => ?_)
          · skip
            have eo := cbS_o (pr := pr) (b := bl op ci) (e0 := en (ci % 2 * 2)) (e1 := en (ci % 2 * 2 + 1)) i1 hhi (by omega) tb h4
            rw [show nI (cbS pr w (op ci) (bl op ci) (en (ci % 2 * 2)) (en (ci % 2 * 2 + 1)) lo hi xf) = nI (cbS pr w (op ci) (bl op ci) (en (ci % 2 * 2)) (en (ci % 2 * 2 + 1)) lo hi to) from congrArg nI eo] at hl
            refine lv_iload S.1 S.2.1 dX6_costBetween_87 (lv_at hl 8 rfl) ?_
            refine lv_istore (lv' := [(7, .int (nI to)), (0, .ref (b 1)), (1, .int (nI ci)), (2, .int (nI lo)), (3, .int (nI hi)), (4, .ref (b (19 + ci))), (5, .int (nI (bnd w (op ci) (2 ^ hi)))), (6, .int (nI (cbS pr w (op ci) (bl op ci) (en (ci % 2 * 2)) (en (ci % 2 * 2 + 1)) lo hi to))), (8, .int (nI to))]) S.1 S.2.1 dX6_costBetween_89 hl (by decide) rfl (fun ls hl => ?_)
            refine lv_iinc (v := nI (to + 1)) (lv' := [(8, .int (nI (to + 1))), (7, .int (nI to)), (0, .ref (b 1)), (1, .int (nI ci)), (2, .int (nI lo)), (3, .int (nI hi)), (4, .ref (b (19 + ci))), (5, .int (nI (bnd w (op ci) (2 ^ hi)))), (6, .int (nI (cbS pr w (op ci) (bl op ci) (en (ci % 2 * 2)) (en (ci % 2 * 2 + 1)) lo hi to)))]) S.1 S.2.1 dX6_costBetween_91 hl (k := 8) rfl (nJ_in _ _) (by decide) rfl (fun ls hl => ?_)
            refine lv_goto (tgt := 29) S.1 S.2.1 dX6_costBetween_94 (by decide) ?_
            exact ih29 to (to + 1) (LB_t i1 tb) (by omega) (by rw [← eo]; omega) (by omega) _ (lv_sub hl [2, 3, 4, 5, 6, 7, 8, 1, 0] rfl)
          · skip
            have ea := cbS_a (pr := pr) (b := bl op ci) (e0 := en (ci % 2 * 2)) (e1 := en (ci % 2 * 2 + 1)) i1 hhi (by omega) tb h4
            refine lv_aload_n S.1 S.2.1 dX6_costBetween_55 rfl (lv_at hl 0 rfl) ?_
            refine lv_iload_n S.1 S.2.1 dX6_costBetween_56 rfl (lv_at hl 1 rfl) ?_
            refine lv_iload S.1 S.2.1 dX6_costBetween_57 (lv_at hl 7 rfl) ?_
            refine lv_iload S.1 S.2.1 dX6_costBetween_59 (lv_at hl 8 rfl) ?_
            refine kX6_ruleBrokenByPiece S hI hG (by omega) (by omega) (by omega) tw_384 (rok (by decide)) hl.1 (Nat.le_of_ble_eq_true rfl) dX6_costBetween_61 ?_
            have b5 : rbP pr w (bl op ci) (en (ci % 2 * 2)) (en (ci % 2 * 2 + 1)) xf (to - xf) ≤ 6 := rbP_le
            refine ly_ifeq (tgt := 70) S (nI_z1 (by omega)) (nI_z2 (by omega)) dX6_costBetween_64 (by decide) (fun h6 => ?_) (fun h6 => ?_)
            · skip
              have ep := cb_good ea h6
              have ep3 := rb_p h6
              have ep4 := prN_le gpr (to - xf)
              refine lv_iload S.1 S.2.1 dX6_costBetween_70 (lv_at hl 6 rfl) ?_
              refine lv_aload_n S.1 S.2.1 dX6_costBetween_72 rfl (lv_at hl 0 rfl) ?_
              refine g6 S hI 1 rfl 0 (by decide) tw_121 rfl dX6_costBetween_73 ?_
              refine lv_iload S.1 S.2.1 dX6_costBetween_76 (lv_at hl 8 rfl) ?_
              refine lv_iload S.1 S.2.1 dX6_costBetween_78 (lv_at hl 7 rfl) ?_
              refine lv_isub S.1 S.2.1 dX6_costBetween_80 ?_
              refine ly_top (z := nI (to - xf)) (pk_sub (by omega)) ?_
              refine kX0_priceOf S hI hG (by omega) tw_388 (rok (by decide)) hl.1 (Nat.le_of_ble_eq_true rfl) dX6_costBetween_81 ?_
              refine ly_top (ppI_v (by omega) ep3) ?_
              refine lv_iadd S.1 S.2.1 dX6_costBetween_84 ?_
              refine ly_top (z := nI ((cbS pr w (op ci) (bl op ci) (en (ci % 2 * 2)) (en (ci % 2 * 2 + 1)) lo hi xf) + (prN pr (to - xf)))) (nI_add _ _) ?_
              refine ly_top (z := (nI (cbS pr w (op ci) (bl op ci) (en (ci % 2 * 2)) (en (ci % 2 * 2 + 1)) lo hi to))) (by rw [ep]) ?_
              refine lv_istore (lv' := [(6, .int (nI (cbS pr w (op ci) (bl op ci) (en (ci % 2 * 2)) (en (ci % 2 * 2 + 1)) lo hi to))), (0, .ref (b 1)), (1, .int (nI ci)), (2, .int (nI lo)), (3, .int (nI hi)), (4, .ref (b (19 + ci))), (5, .int (nI (bnd w (op ci) (2 ^ hi)))), (7, .int (nI xf)), (8, .int (nI to))]) S.1 S.2.1 dX6_costBetween_85 hl (by decide) rfl (fun ls hl => ?_)
              refine lv_iload S.1 S.2.1 dX6_costBetween_87 (lv_at hl 8 rfl) ?_
              refine lv_istore (lv' := [(7, .int (nI to)), (6, .int (nI (cbS pr w (op ci) (bl op ci) (en (ci % 2 * 2)) (en (ci % 2 * 2 + 1)) lo hi to))), (0, .ref (b 1)), (1, .int (nI ci)), (2, .int (nI lo)), (3, .int (nI hi)), (4, .ref (b (19 + ci))), (5, .int (nI (bnd w (op ci) (2 ^ hi)))), (8, .int (nI to))]) S.1 S.2.1 dX6_costBetween_89 hl (by decide) rfl (fun ls hl => ?_)
              refine lv_iinc (v := nI (to + 1)) (lv' := [(8, .int (nI (to + 1))), (7, .int (nI to)), (6, .int (nI (cbS pr w (op ci) (bl op ci) (en (ci % 2 * 2)) (en (ci % 2 * 2 + 1)) lo hi to))), (0, .ref (b 1)), (1, .int (nI ci)), (2, .int (nI lo)), (3, .int (nI hi)), (4, .ref (b (19 + ci))), (5, .int (nI (bnd w (op ci) (2 ^ hi))))]) S.1 S.2.1 dX6_costBetween_91 hl (k := 8) rfl (nJ_in _ _) (by decide) rfl (fun ls hl => ?_)
              refine lv_goto (tgt := 29) S.1 S.2.1 dX6_costBetween_94 (by decide) ?_
              exact ih29 to (to + 1) (LB_t i1 tb) (by omega) (by rw [← ep]; omega) (by omega) _ (lv_sub hl [3, 4, 5, 6, 7, 8, 2, 1, 0] rfl)
            · skip
              refine lv_ldc S.1 S.2.1 S.2.2.2.1 (S.2.2.2.2 _ tw_393) dX6_costBetween_67 ?_
              refine ly_top (z := nI 1000000) (by decide) ?_
              exact rt_i S hr hlk (cb_bad ea h6 (by omega)) dX6_costBetween_69
  exact L29 _ lo (lo + 1) LB_0 (by omega) (by rw [cbS_lo]; omega) (Nat.lt_succ_self _) _ (lv_sub hl [5, 6, 7, 8, 4, 3, 2, 1, 0] rfl)
theorem kX6_costBetween {p : Program} {l : Launch} {e : Env} {R : Room} {s : State} {m : MethodId} {args : Array Value} {below : List Frame} {meth : Method} {c : Code} {H : Heap} {locs : List Loc} {cells slots : Nat} {Q : State → Prop} {cc : ByteArray} {nL index pc : Nat} {own : String} {ls : Array Slot} {rest : List Value} {D : va_G} {K : Nat → ClassId} {b : Nat → Nat} {w n lap : Nat} {op mu ba la en : Nat → Nat} {pr : Nat → Option Nat} {fr : Bool} {co : Nat → Nat → Nat} {cw cj : Nat → Int64} {cl : Nat} {rv : Int64} {rc : Nat} {pj : Nat → Nat → Nat} {pw ch : Nat → Nat} {pl lc : Nat} {tl : Nat → Nat} {ci : Nat} {lo : Nat} {hi : Nat} (S : CallFix p m c cc nL s args lw_tb own) (hI : PI D K (cW K b w n lap op mu ba la en pr fr co cw cj cl rv rc pj pw ch pl lc tl) s H) (hG : GOK w n lap op mu ba la en pr) (hc : ci < n) (hlo : lo < hi) (hhi : hi ≤ w) (hlink : Cond.methodLink own index yX6_costBetween ∈ lw_tb) (hR : RO 2 R cells slots) (hsz : ls.size = nL) (hW : (rest.map fun v => v.category).sum ≤ 8) (hdg : decode cc pc = .ok (.invokevirtual index, 3)) (kk : W p l e R s m args below meth c H locs cells slots Q (F0 m (pc + 3) ls (.int (nI (cbF pr w (op ci) (bl op ci) (en (ci % 2 * 2)) (en (ci % 2 * 2 + 1)) lo hi)) :: rest))) : W p l e R s m args below meth c H locs cells slots Q (F0 m pc ls (.int (nI hi) :: .int (nI lo) :: .int (nI ci) :: .ref (b 1) :: rest)) :=
  kV (As := [.int (nI ci), .int (nI lo), .int (nI hi)]) (b := b 1) S (mX6_costBetween l hG hc hlo hhi) hlink tw_380 tw_381 tw_43 tw_382 (by show _ ∧ _ ∧ _ = some 3; decide +kernel) (by decide) hR blP (piU hI) (va_recv hI.2 hI.1 (ci := 6) (q0 := 1) rfl rfl) hsz rfl hW hdg kk
