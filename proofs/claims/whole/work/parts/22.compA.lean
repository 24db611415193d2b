set_option maxHeartbeats 4000000 in
set_option maxRecDepth 100000 in
theorem mX6_near (l : Launch) {j : Nat} {z : Nat} (hj : j < 1024) (hz : z ≤ 3) (hz1 : 1 ≤ z) : Met l yX6_near (TWd yX6_near cX6_near 4 (some .int)) (rmk 0) (va_Pc [.int (nI j), .int (nI z)] (fun _ => True)) (QcRead (nI (arG j z))) 0 0 (fun _ => False) := by
  refine mt_of (by decide +kernel) (Nat.le_of_ble_eq_true rfl) ?_
  intro p e s m below meth c S hr hlk hI ls hl
  have S : CallFix p m c cX6_near 4 s ([.int (nI j), .int (nI z)] : List Value).toArray lw_tb RX6 := S
  have hl : lv_has ls 4 [(0, .int (nI j)), (1, .int (nI z))] := hl
  refine lv_iload_n S.1 S.2.1 dX6_near_0 rfl (lv_at hl 0 rfl) ?_
  refine ly_top (z := (nI (arG j 1))) rfl ?_
  refine lv_istore_n (lv' := [(2, .int (nI (arG j 1))), (0, .int (nI j)), (1, .int (nI z))]) S.1 S.2.1 dX6_near_1 rfl hl (by decide) rfl (fun ls hl => ?_)
  refine lv_iconst (v := nI 1) S.1 S.2.1 dX6_near_2 (by decide) ?_
  refine lv_istore_n (lv' := [(3, .int (nI 1)), (2, .int (nI (arG j 1))), (0, .int (nI j)), (1, .int (nI z))]) S.1 S.2.1 dX6_near_3 rfl hl (by decide) rfl (fun ls hl => ?_)
  have L4 : ∀ (f4 : Nat) (k : Nat), (1 ≤ k) → (k ≤ z) → z - k < f4 → ∀ (ls : Array Slot), lv_has ls 4 [(0, .int (nI j)), (1, .int (nI z)), (2, .int (nI (arG j k))), (3, .int (nI k))] → W p l e (rmk 0) s m ([.int (nI j), .int (nI z)] : List Value).toArray below meth c s.heap [] 0 0 (MQ below (QcRead (nI (arG j z))) ([.int (nI j), .int (nI z)] : List Value).toArray s 0 0 (fun _ => False)) (F0 m 4 ls []) := by
    intro f4
    induction f4 with
    | zero =>
      intro k i1 i2 hm
      exact absurd hm (Nat.not_lt_zero _)
    | succ f4 ih4 =>
      intro k i1 i2 hm4 ls hl
      have b1 := arG_lt hj k (by omega)
      refine lv_iload_n S.1 S.2.1 dX6_near_4 rfl (lv_at hl 3 rfl) ?_
      refine lv_iload_n S.1 S.2.1 dX6_near_5 rfl (lv_at hl 1 rfl) ?_
      refine ly_cmge (tgt := 25) S (nI_le1 (by omega) (by omega)) (nI_le2 (by omega) (by omega)) dX6_near_6 (by decide) (fun h1 => ?_) (fun h1 => ?_)
      · skip
        refine lv_iload_n S.1 S.2.1 dX6_near_25 rfl (lv_at hl 2 rfl) ?_
        exact rt_i S hr hlk (by rw [show k = z by omega]) dX6_near_26
      · skip
        refine lv_iload_n S.1 S.2.1 dX6_near_9 rfl (lv_at hl 2 rfl) ?_
        refine lv_iload_n S.1 S.2.1 dX6_near_10 rfl (lv_at hl 0 rfl) ?_
        refine lv_iload_n S.1 S.2.1 dX6_near_11 rfl (lv_at hl 3 rfl) ?_
        refine lv_ishl S.1 S.2.1 dX6_near_12 ?_
        refine ly_top (z := nI (j <<< k)) (nI_shl (by omega) (by have := Nat.pow_le_pow_right (show 0 < 2 by decide) (show k ≤ 2 by omega); rw [Nat.shiftLeft_eq]; have := Nat.mul_le_mul (show j ≤ 1023 by omega) this; omega)) ?_
        refine lv_iload_n S.1 S.2.1 dX6_near_13 rfl (lv_at hl 0 rfl) ?_
        refine lv_iload_n S.1 S.2.1 dX6_near_14 rfl (lv_at hl 3 rfl) ?_
        refine lv_ishr S.1 S.2.1 dX6_near_15 ?_
        refine ly_top (z := nI (j >>> k)) (nI_shr (by omega) (by omega)) ?_
        have b2 : j <<< k < 4096 := by have := Nat.pow_le_pow_right (show 0 < 2 by decide) (show k ≤ 2 by omega); rw [Nat.shiftLeft_eq]; have := Nat.mul_le_mul (show j ≤ 1023 by omega) this; omega
        have b3 : j >>> k < 4096 := Nat.lt_of_le_of_lt (Nat.shiftRight_le j k) (by omega)
        refine lv_ior S.1 S.2.1 dX6_near_16 ?_
        refine ly_top (z := nI ((j <<< k) ||| (j >>> k))) (nI_or (by omega) (by omega)) ?_
        have b4 : j <<< k ||| j >>> k < 2 ^ 12 := Nat.or_lt_two_pow b2 b3
        refine lv_ior S.1 S.2.1 dX6_near_17 ?_
        refine ly_top (z := nI ((arG j k) ||| ((j <<< k) ||| (j >>> k)))) (nI_or (by omega) (by omega)) ?_
        refine ly_top (z := (nI (arG j (k + 1)))) (by simp only [arG]; rw [if_neg (by omega)]) ?_
        refine lv_istore_n (lv' := [(2, .int (nI (arG j (k + 1)))), (0, .int (nI j)), (1, .int (nI z)), (3, .int (nI k))]) S.1 S.2.1 dX6_near_18 rfl hl (by decide) rfl (fun ls hl => ?_)
        refine lv_iinc (v := nI (k + 1)) (lv' := [(3, .int (nI (k + 1))), (2, .int (nI (arG j (k + 1)))), (0, .int (nI j)), (1, .int (nI z))]) S.1 S.2.1 dX6_near_19 hl (k := 3) rfl (nJ_in _ _) (by decide) rfl (fun ls hl => ?_)
        refine lv_goto (tgt := 4) S.1 S.2.1 dX6_near_22 (by decide) ?_
        exact ih4 (k + 1) (by omega) (by omega) (by omega) _ (lv_sub hl [2, 3, 1, 0] rfl)
  exact L4 _ 1 (by omega) (by omega) (Nat.lt_succ_self _) _ (lv_sub hl [2, 3, 1, 0] rfl)
theorem kX6_near {p : Program} {l : Launch} {e : Env} {R : Room} {s : State} {m : MethodId} {args : Array Value} {below : List Frame} {meth : Method} {c : Code} {H : Heap} {locs : List Loc} {cells slots : Nat} {Q : State → Prop} {cc : ByteArray} {nL index pc : Nat} {own : String} {ls : Array Slot} {rest : List Value} {j : Nat} {z : Nat} (S : CallFix p m c cc nL s args lw_tb own) (hj : j < 1024) (hz : z ≤ 3) (hz1 : 1 ≤ z) (hlink : Cond.methodLink own index yX6_near ∈ lw_tb) (hR : RO 0 R cells slots) (hsz : ls.size = nL) (hW : (rest.map fun v => v.category).sum ≤ 8) (hdg : decode cc pc = .ok (.invokestatic index, 3)) (kk : W p l e R s m args below meth c H locs cells slots Q (F0 m (pc + 3) ls (.int (nI (arG j z)) :: rest))) : W p l e R s m args below meth c H locs cells slots Q (F0 m pc ls (.int (nI z) :: .int (nI j) :: rest)) :=
  kS (As := [.int (nI j), .int (nI z)]) S (mX6_near l hj hz hz1) hlink tw_453 tw_43 tw_454 (by show _ ∧ _ ∧ _ = some 2; decide +kernel) (by decide) hR blT (fun _ _ _ => trivial) hsz rfl hW hdg kk

set_option maxHeartbeats 4000000 in
set_option maxRecDepth 100000 in
theorem mX4_firstWith (l : Launch) {z : Nat} (hz : z ≤ 10) : Met l yX4_firstWith (TWd yX4_firstWith cX4_firstWith 1 (some .int)) (rmk 0) (va_Pc [.int (nI z)] (fun _ => True)) (QcRead (nI (fwF z))) 0 0 (fun _ => False) := by
  refine mt_of (by decide +kernel) (Nat.le_of_ble_eq_true rfl) ?_
  intro p e s m below meth c S hr hlk hI ls hl
  have S : CallFix p m c cX4_firstWith 1 s ([.int (nI z)] : List Value).toArray lw_tb RX4 := S
  have hl : lv_has ls 1 [(0, .int (nI z))] := hl
  have e1 : 1 <<< z = 2 ^ z := Nat.one_shiftLeft z
  have e2 : 2 ^ z ≤ 2 ^ 10 := Nat.pow_le_pow_right (by decide) hz
  have e3 : 2 ^ z ≤ 1024 := e2
  refine lv_iconst (v := nI 1) S.1 S.2.1 dX4_firstWith_0 (by decide) ?_
  refine lv_iload_n S.1 S.2.1 dX4_firstWith_1 rfl (lv_at hl 0 rfl) ?_
  refine lv_ishl S.1 S.2.1 dX4_firstWith_2 ?_
  refine ly_top (z := nI (1 <<< z)) (nI_shl (by omega) (by rw [e1]; omega)) ?_
  refine lv_iconst (v := nI 1) S.1 S.2.1 dX4_firstWith_3 (by decide) ?_
  refine lv_ishr S.1 S.2.1 dX4_firstWith_4 ?_
  refine ly_top (z := nI ((1 <<< z) >>> 1)) (nI_shr (by rw [e1]; omega) (by omega)) ?_
  exact rt_i S hr hlk (by rw [fwF, e1]) dX4_firstWith_5
theorem kX4_firstWith {p : Program} {l : Launch} {e : Env} {R : Room} {s : State} {m : MethodId} {args : Array Value} {below : List Frame} {meth : Method} {c : Code} {H : Heap} {locs : List Loc} {cells slots : Nat} {Q : State → Prop} {cc : ByteArray} {nL index pc : Nat} {own : String} {ls : Array Slot} {rest : List Value} {z : Nat} (S : CallFix p m c cc nL s args lw_tb own) (hz : z ≤ 10) (hlink : Cond.methodLink own index yX4_firstWith ∈ lw_tb) (hR : RO 0 R cells slots) (hsz : ls.size = nL) (hW : (rest.map fun v => v.category).sum ≤ 8) (hdg : decode cc pc = .ok (.invokestatic index, 3)) (kk : W p l e R s m args below meth c H locs cells slots Q (F0 m (pc + 3) ls (.int (nI (fwF z)) :: rest))) : W p l e R s m args below meth c H locs cells slots Q (F0 m pc ls (.int (nI z) :: rest)) :=
  kS (As := [.int (nI z)]) S (mX4_firstWith l hz) hlink tw_377 tw_46 tw_378 (by show _ ∧ _ ∧ _ = some 1; decide +kernel) (by decide) hR blT (fun _ _ _ => trivial) hsz rfl hW hdg kk

set_option maxHeartbeats 4000000 in
set_option maxRecDepth 100000 in
theorem mX0_priceOf (l : Launch) {D : va_G} {K : Nat → ClassId} {b : Nat → Nat} {w n lap : Nat} {op mu ba la en : Nat → Nat} {pr : Nat → Option Nat} {fr : Bool} {co : Nat → Nat → Nat} {cw cj : Nat → Int64} {cl : Nat} {rv : Int64} {rc : Nat} {pj : Nat → Nat → Nat} {pw ch : Nat → Nat} {pl lc : Nat} {tl : Nat → Nat} {L : Nat} (hG : GOK w n lap op mu ba la en pr) (hL : L < 2 ^ 31) : Met l yX0_priceOf (TWd yX0_priceOf cX0_priceOf 2 (some .int)) (rmk 0) (va_Pc [.ref (b 2), .int (nI L)] (fun U => PI D K (cW K b w n lap op mu ba la en pr fr co cw cj cl rv rc pj pw ch pl lc tl) U U.heap)) (QcRead (ppI pr L)) 0 0 (fun _ => False) := by
  refine mt_of (by decide +kernel) (Nat.le_of_ble_eq_true rfl) ?_
  intro p e s m below meth c S hr hlk hI ls hl
  have S : CallFix p m c cX0_priceOf 2 s ([.ref (b 2), .int (nI L)] : List Value).toArray lw_tb RX0 := S
  have hl : lv_has ls 2 [(0, .ref (b 2)), (1, .int (nI L))] := hl
  obtain ⟨gw1, gw2, gn, gl1, gl2, gop, gmu, gba, gla, gen, gpr, gop2, gmu2, gba2, gla2, gme, gbe, gle, gee⟩ := id hG
  refine lv_iload_n S.1 S.2.1 dX0_priceOf_0 rfl (lv_at hl 1 rfl) ?_
  refine lv_iconst (v := nI 1) S.1 S.2.1 dX0_priceOf_1 (by decide) ?_
  refine ly_cmlt (tgt := 11) S (nI_l1 (by omega) (by omega)) (nI_l2 (by omega) (by omega)) dX0_priceOf_2 (by decide) (fun h1 => ?_) (fun h1 => ?_)
  · skip
    refine lv_bipush (v := (-9)) S.1 S.2.1 dX0_priceOf_11 (by decide) ?_
    refine lv_goto (tgt := 22) S.1 S.2.1 dX0_priceOf_13 (by decide) ?_
    exact rt_i S hr hlk (ppI_1 h1) dX0_priceOf_22
  · skip
    refine lv_iload_n S.1 S.2.1 dX0_priceOf_5 rfl (lv_at hl 1 rfl) ?_
    refine lv_bipush (v := nI 6) S.1 S.2.1 dX0_priceOf_6 (by decide) ?_
    refine ly_cmle (tgt := 16) S (nI_le1 (by omega) (by omega)) (nI_le2 (by omega) (by omega)) dX0_priceOf_8 (by decide) (fun h2 => ?_) (fun h2 => ?_)
    · skip
      refine lv_aload_n S.1 S.2.1 dX0_priceOf_16 rfl (lv_at hl 0 rfl) ?_
      refine g0 S hI 2 rfl 0 (by decide) tw_85 rfl dX0_priceOf_17 ?_
      refine lv_iload_n S.1 S.2.1 dX0_priceOf_20 rfl (lv_at hl 1 rfl) ?_
      refine ly_iald (v := (pz (-9) pr L)) S hI 4 rfl (by omega) (by decide) rfl dX0_priceOf_21 ?_
      exact rt_i S hr hlk (ppI_3 h1 h2) dX0_priceOf_22
    · skip
      refine lv_bipush (v := (-9)) S.1 S.2.1 dX0_priceOf_11 (by decide) ?_
      refine lv_goto (tgt := 22) S.1 S.2.1 dX0_priceOf_13 (by decide) ?_
      exact rt_i S hr hlk (ppI_2 h2) dX0_priceOf_22
theorem kX0_priceOf {p : Program} {l : Launch} {e : Env} {R : Room} {s : State} {m : MethodId} {args : Array Value} {below : List Frame} {meth : Method} {c : Code} {H : Heap} {locs : List Loc} {cells slots : Nat} {Q : State → Prop} {cc : ByteArray} {nL index pc : Nat} {own : String} {ls : Array Slot} {rest : List Value} {D : va_G} {K : Nat → ClassId} {b : Nat → Nat} {w n lap : Nat} {op mu ba la en : Nat → Nat} {pr : Nat → Option Nat} {fr : Bool} {co : Nat → Nat → Nat} {cw cj : Nat → Int64} {cl : Nat} {rv : Int64} {rc : Nat} {pj : Nat → Nat → Nat} {pw ch : Nat → Nat} {pl lc : Nat} {tl : Nat → Nat} {L : Nat} (S : CallFix p m c cc nL s args lw_tb own) (hI : PI D K (cW K b w n lap op mu ba la en pr fr co cw cj cl rv rc pj pw ch pl lc tl) s H) (hG : GOK w n lap op mu ba la en pr) (hL : L < 2 ^ 31) (hlink : Cond.methodLink own index yX0_priceOf ∈ lw_tb) (hR : RO 0 R cells slots) (hsz : ls.size = nL) (hW : (rest.map fun v => v.category).sum ≤ 8) (hdg : decode cc pc = .ok (.invokevirtual index, 3)) (kk : W p l e R s m args below meth c H locs cells slots Q (F0 m (pc + 3) ls (.int (ppI pr L) :: rest))) : W p l e R s m args below meth c H locs cells slots Q (F0 m pc ls (.int (nI L) :: .ref (b 2) :: rest)) :=
  kV (As := [.int (nI L)]) (b := b 2) S (mX0_priceOf l hG hL) hlink tw_314 tw_315 tw_44 tw_316 (by show _ ∧ _ ∧ _ = some 1; decide +kernel) (by decide) hR blP (piU hI) (va_recv hI.2 hI.1 (ci := 0) (q0 := 2) rfl rfl) hsz rfl hW hdg kk

set_option maxHeartbeats 4000000 in
set_option maxRecDepth 100000 in
theorem mX0_mayEnd (l : Launch) {D : va_G} {K : Nat → ClassId} {b : Nat → Nat} {w n lap : Nat} {op mu ba la en : Nat → Nat} {pr : Nat → Option Nat} {fr : Bool} {co : Nat → Nat → Nat} {cw cj : Nat → Int64} {cl : Nat} {rv : Int64} {rc : Nat} {pj : Nat → Nat → Nat} {pw ch : Nat → Nat} {pl lc : Nat} {tl : Nat → Nat} {ci : Nat} {sd : Nat} {L : Nat} (hG : GOK w n lap op mu ba la en pr) (hci : ci < 2 ^ 31) (hsd : sd < 2) (hL : L < 32) : Met l yX0_mayEnd (TWd yX0_mayEnd cX0_mayEnd 4 (some .boolean)) (rmk 0) (va_Pc [.ref (b 2), .int (nI ci), .int (nI sd), .int (nI L)] (fun U => PI D K (cW K b w n lap op mu ba la en pr fr co cw cj cl rv rc pj pw ch pl lc tl) U U.heap)) (QcRead (bI (Nat.testBit (en (ci % 2 * 2 + sd)) L))) 0 0 (fun _ => False) := by
  refine mt_of (by decide +kernel) (Nat.le_of_ble_eq_true rfl) ?_
  intro p e s m below meth c S hr hlk hI ls hl
  have S : CallFix p m c cX0_mayEnd 4 s ([.ref (b 2), .int (nI ci), .int (nI sd), .int (nI L)] : List Value).toArray lw_tb RX0 := S
  have hl : lv_has ls 4 [(0, .ref (b 2)), (1, .int (nI ci)), (2, .int (nI sd)), (3, .int (nI L))] := hl
  obtain ⟨gw1, gw2, gn, gl1, gl2, gop, gmu, gba, gla, gen, gpr, gop2, gmu2, gba2, gla2, gme, gbe, gle, gee⟩ := id hG
  refine lv_aload_n S.1 S.2.1 dX0_mayEnd_0 rfl (lv_at hl 0 rfl) ?_
  refine g0 S hI 2 rfl 1 (by decide) tw_87 rfl dX0_mayEnd_1 ?_
  refine lv_iload_n S.1 S.2.1 dX0_mayEnd_4 rfl (lv_at hl 1 rfl) ?_
  refine lv_iconst (v := nI 1) S.1 S.2.1 dX0_mayEnd_5 (by decide) ?_
  refine lv_iand S.1 S.2.1 dX0_mayEnd_6 ?_
  refine ly_top (z := nI (ci &&& 1)) (nI_and (by omega) (by omega)) ?_
  refine ly_top (z := (nI (ci % 2))) (by rw [and1]) ?_
  refine ly_aald (t0 := 4) (v := b (6 + (ci % 2))) S hI 5 rfl rfl rfl (by omega) (by decide) rfl dX0_mayEnd_7 ?_
  refine lv_iload_n S.1 S.2.1 dX0_mayEnd_8 rfl (lv_at hl 2 rfl) ?_
  refine lv_iconst (v := nI 1) S.1 S.2.1 dX0_mayEnd_9 (by decide) ?_
  refine lv_iand S.1 S.2.1 dX0_mayEnd_10 ?_
  refine ly_top (z := nI (sd &&& 1)) (nI_and (by omega) (by omega)) ?_
  refine ly_top (z := (nI sd)) (by rw [and1, Nat.mod_eq_of_lt hsd]) ?_
  refine ly_iald (v := (nI (if sd < 2 then en (2 * (ci % 2) + sd) else 0))) S hI (6 + (ci % 2)) (cw_en (by omega)) (by omega) (by decide) rfl dX0_mayEnd_11 ?_
  refine ly_top (z := (nI (en (ci % 2 * 2 + sd)))) (by rw [if_pos hsd, Nat.mul_comm]) ?_
  have o1 := gen (ci % 2 * 2 + sd)
  refine lv_iload_n S.1 S.2.1 dX0_mayEnd_12 rfl (lv_at hl 3 rfl) ?_
  refine lv_ishr S.1 S.2.1 dX0_mayEnd_13 ?_
  refine ly_top (z := nI ((en (ci % 2 * 2 + sd)) >>> L)) (nI_shr (by omega) (by omega)) ?_
  refine lv_iconst (v := nI 1) S.1 S.2.1 dX0_mayEnd_14 (by decide) ?_
  refine lv_iand S.1 S.2.1 dX0_mayEnd_15 ?_
  refine ly_top (z := nI (((en (ci % 2 * 2 + sd)) >>> L) &&& 1)) (nI_and (Nat.lt_of_le_of_lt (Nat.shiftRight_le _ _) (by omega)) (by omega)) ?_
  refine ly_top (z := (nI ((en (ci % 2 * 2 + sd) >>> L) % 2))) (by rw [and1]) ?_
  have q6 : (en (ci % 2 * 2 + sd) >>> L) % 2 < 2 := Nat.mod_lt _ (by decide)
  refine ly_ifeq (tgt := 23) S (nI_z1 (by omega)) (nI_z2 (by omega)) dX0_mayEnd_16 (by decide) (fun h1 => ?_) (fun h1 => ?_)
  · skip
    refine lv_iconst (v := nI 0) S.1 S.2.1 dX0_mayEnd_23 (by decide) ?_
    exact rt_z0 S hr hlk (tb0 (by omega)) dX0_mayEnd_24
  · skip
    refine lv_iconst (v := nI 1) S.1 S.2.1 dX0_mayEnd_19 (by decide) ?_
    refine lv_goto (tgt := 24) S.1 S.2.1 dX0_mayEnd_20 (by decide) ?_
    exact rt_z1 S hr hlk (tb1 (by omega)) dX0_mayEnd_24
theorem kX0_mayEnd {p : Program} {l : Launch} {e : Env} {R : Room} {s : State} {m : MethodId} {args : Array Value} {below : List Frame} {meth : Method} {c : Code} {H : Heap} {locs : List Loc} {cells slots : Nat} {Q : State → Prop} {cc : ByteArray} {nL index pc : Nat} {own : String} {ls : Array Slot} {rest : List Value} {D : va_G} {K : Nat → ClassId} {b : Nat → Nat} {w n lap : Nat} {op mu ba la en : Nat → Nat} {pr : Nat → Option Nat} {fr : Bool} {co : Nat → Nat → Nat} {cw cj : Nat → Int64} {cl : Nat} {rv : Int64} {rc : Nat} {pj : Nat → Nat → Nat} {pw ch : Nat → Nat} {pl lc : Nat} {tl : Nat → Nat} {ci : Nat} {sd : Nat} {L : Nat} (S : CallFix p m c cc nL s args lw_tb own) (hI : PI D K (cW K b w n lap op mu ba la en pr fr co cw cj cl rv rc pj pw ch pl lc tl) s H) (hG : GOK w n lap op mu ba la en pr) (hci : ci < 2 ^ 31) (hsd : sd < 2) (hL : L < 32) (hlink : Cond.methodLink own index yX0_mayEnd ∈ lw_tb) (hR : RO 0 R cells slots) (hsz : ls.size = nL) (hW : (rest.map fun v => v.category).sum ≤ 8) (hdg : decode cc pc = .ok (.invokevirtual index, 3)) (kk : W p l e R s m args below meth c H locs cells slots Q (F0 m (pc + 3) ls (.int (bI (Nat.testBit (en (ci % 2 * 2 + sd)) L)) :: rest))) : W p l e R s m args below meth c H locs cells slots Q (F0 m pc ls (.int (nI L) :: .int (nI sd) :: .int (nI ci) :: .ref (b 2) :: rest)) :=
  kV (As := [.int (nI ci), .int (nI sd), .int (nI L)]) (b := b 2) S (mX0_mayEnd l hG hci hsd hL) hlink tw_390 tw_391 tw_44 tw_392 (by show _ ∧ _ ∧ _ = some 3; decide +kernel) (by decide) hR blP (piU hI) (va_recv hI.2 hI.1 (ci := 0) (q0 := 2) rfl rfl) hsz rfl hW hdg kk

set_option maxHeartbeats 4000000 in
set_option maxRecDepth 100000 in
theorem mX2_isOpen (l : Launch) {D : va_G} {K : Nat → ClassId} {b : Nat → Nat} {w n lap : Nat} {op mu ba la en : Nat → Nat} {pr : Nat → Option Nat} {fr : Bool} {co : Nat → Nat → Nat} {cw cj : Nat → Int64} {cl : Nat} {rv : Int64} {rc : Nat} {pj : Nat → Nat → Nat} {pw ch : Nat → Nat} {pl lc : Nat} {tl : Nat → Nat} {i : Nat} {x : Nat} (hG : GOK w n lap op mu ba la en pr) (hi : i < 9) (hx : x < 32) : Met l yX2_isOpen (TWd yX2_isOpen cX2_isOpen 2 (some .boolean)) (rmk 0) (va_Pc [.ref (b (19 + i)), .int (nI x)] (fun U => PI D K (cW K b w n lap op mu ba la en pr fr co cw cj cl rv rc pj pw ch pl lc tl) U U.heap)) (QcRead (bI (Nat.testBit (gz op i) x))) 0 0 (fun _ => False) := by
  refine mt_of (by decide +kernel) (Nat.le_of_ble_eq_true rfl) ?_
  intro p e s m below meth c S hr hlk hI ls hl
  have S : CallFix p m c cX2_isOpen 2 s ([.ref (b (19 + i)), .int (nI x)] : List Value).toArray lw_tb RX2 := S
  have hl : lv_has ls 2 [(0, .ref (b (19 + i))), (1, .int (nI x))] := hl
  obtain ⟨gw1, gw2, gn, gl1, gl2, gop, gmu, gba, gla, gen, gpr, gop2, gmu2, gba2, gla2, gme, gbe, gle, gee⟩ := id hG
  have o1 := gz_le gop (by decide) i
  refine lv_aload_n S.1 S.2.1 dX2_isOpen_0 rfl (lv_at hl 0 rfl) ?_
  refine g2 S hI (19 + i) (cw_cr (by omega)) 0 (by decide) tw_102 rfl dX2_isOpen_1 ?_
  refine lv_iload_n S.1 S.2.1 dX2_isOpen_4 rfl (lv_at hl 1 rfl) ?_
  refine lv_ishr S.1 S.2.1 dX2_isOpen_5 ?_
  refine ly_top (z := nI ((gz op i) >>> x)) (nI_shr (by omega) (by omega)) ?_
  refine lv_iconst (v := nI 1) S.1 S.2.1 dX2_isOpen_6 (by decide) ?_
  refine lv_iand S.1 S.2.1 dX2_isOpen_7 ?_
  refine ly_top (z := nI (((gz op i) >>> x) &&& 1)) (nI_and (Nat.lt_of_le_of_lt (Nat.shiftRight_le _ _) (by omega)) (by omega)) ?_
  refine ly_top (z := (nI ((gz op i >>> x) % 2))) (by rw [and1]) ?_
  have q6 : (gz op i >>> x) % 2 < 2 := Nat.mod_lt _ (by decide)
  refine ly_ifeq (tgt := 15) S (nI_z1 (by omega)) (nI_z2 (by omega)) dX2_isOpen_8 (by decide) (fun h1 => ?_) (fun h1 => ?_)
  · skip
    refine lv_iconst (v := nI 0) S.1 S.2.1 dX2_isOpen_15 (by decide) ?_
    exact rt_z0 S hr hlk (tb0 (by omega)) dX2_isOpen_16
  · skip
    refine lv_iconst (v := nI 1) S.1 S.2.1 dX2_isOpen_11 (by decide) ?_
    refine lv_goto (tgt := 16) S.1 S.2.1 dX2_isOpen_12 (by decide) ?_
    exact rt_z1 S hr hlk (tb1 (by omega)) dX2_isOpen_16
theorem kX2_isOpen {p : Program} {l : Launch} {e : Env} {R : Room} {s : State} {m : MethodId} {args : Array Value} {below : List Frame} {meth : Method} {c : Code} {H : Heap} {locs : List Loc} {cells slots : Nat} {Q : State → Prop} {cc : ByteArray} {nL index pc : Nat} {own : String} {ls : Array Slot} {rest : List Value} {D : va_G} {K : Nat → ClassId} {b : Nat → Nat} {w n lap : Nat} {op mu ba la en : Nat → Nat} {pr : Nat → Option Nat} {fr : Bool} {co : Nat → Nat → Nat} {cw cj : Nat → Int64} {cl : Nat} {rv : Int64} {rc : Nat} {pj : Nat → Nat → Nat} {pw ch : Nat → Nat} {pl lc : Nat} {tl : Nat → Nat} {i : Nat} {x : Nat} (S : CallFix p m c cc nL s args lw_tb own) (hI : PI D K (cW K b w n lap op mu ba la en pr fr co cw cj cl rv rc pj pw ch pl lc tl) s H) (hG : GOK w n lap op mu ba la en pr) (hi : i < 9) (hx : x < 32) (hlink : Cond.methodLink own index yX2_isOpen ∈ lw_tb) (hR : RO 0 R cells slots) (hsz : ls.size = nL) (hW : (rest.map fun v => v.category).sum ≤ 8) (hdg : decode cc pc = .ok (.invokevirtual index, 3)) (kk : W p l e R s m args below meth c H locs cells slots Q (F0 m (pc + 3) ls (.int (bI (Nat.testBit (gz op i) x)) :: rest))) : W p l e R s m args below meth c H locs cells slots Q (F0 m pc ls (.int (nI x) :: .ref (b (19 + i)) :: rest)) :=
  kV (As := [.int (nI x)]) (b := b (19 + i)) S (mX2_isOpen l hG hi hx) hlink tw_353 tw_354 tw_45 tw_355 (by show _ ∧ _ ∧ _ = some 1; decide +kernel) (by decide) hR blP (piU hI) (va_recv hI.2 hI.1 (ci := 2) (q0 := 19 + i) rfl (cw_cr hi)) hsz rfl hW hdg kk

set_option maxHeartbeats 4000000 in
set_option maxRecDepth 100000 in
theorem mX2_besideOpen (l : Launch) {D : va_G} {K : Nat → ClassId} {b : Nat → Nat} {w n lap : Nat} {op mu ba la en : Nat → Nat} {pr : Nat → Option Nat} {fr : Bool} {co : Nat → Nat → Nat} {cw cj : Nat → Int64} {cl : Nat} {rv : Int64} {rc : Nat} {pj : Nat → Nat → Nat} {pw ch : Nat → Nat} {pl lc : Nat} {tl : Nat → Nat} {i : Nat} (hG : GOK w n lap op mu ba la en pr) (hi : i < 9) : Met l yX2_besideOpen (TWd yX2_besideOpen cX2_besideOpen 1 (some .int)) (rmk 0) (va_Pc [.ref (b (19 + i))] (fun U => PI D K (cW K b w n lap op mu ba la en pr fr co cw cj cl rv rc pj pw ch pl lc tl) U U.heap)) (QcRead (nI (gz op i ||| gz op i <<< 1))) 0 0 (fun _ => False) := by
  refine mt_of (by decide +kernel) (Nat.le_of_ble_eq_true rfl) ?_
  intro p e s m below meth c S hr hlk hI ls hl
  have S : CallFix p m c cX2_besideOpen 1 s ([.ref (b (19 + i))] : List Value).toArray lw_tb RX2 := S
  have hl : lv_has ls 1 [(0, .ref (b (19 + i)))] := hl
  obtain ⟨gw1, gw2, gn, gl1, gl2, gop, gmu, gba, gla, gen, gpr, gop2, gmu2, gba2, gla2, gme, gbe, gle, gee⟩ := id hG
  have o1 := gz_le gop (by decide) i
  have o2 : gz op i <<< 1 < 2048 := by rw [Nat.shiftLeft_eq]; omega
  refine lv_aload_n S.1 S.2.1 dX2_besideOpen_0 rfl (lv_at hl 0 rfl) ?_
  refine g2 S hI (19 + i) (cw_cr (by omega)) 0 (by decide) tw_102 rfl dX2_besideOpen_1 ?_
  refine lv_aload_n S.1 S.2.1 dX2_besideOpen_4 rfl (lv_at hl 0 rfl) ?_
  refine g2 S hI (19 + i) (cw_cr (by omega)) 0 (by decide) tw_102 rfl dX2_besideOpen_5 ?_
  refine lv_iconst (v := nI 1) S.1 S.2.1 dX2_besideOpen_8 (by decide) ?_
  refine lv_ishl S.1 S.2.1 dX2_besideOpen_9 ?_
  refine ly_top (z := nI ((gz op i) <<< 1)) (nI_shl (by omega) (by omega)) ?_
  refine lv_ior S.1 S.2.1 dX2_besideOpen_10 ?_
  refine ly_top (z := nI ((gz op i) ||| ((gz op i) <<< 1))) (nI_or (by omega) (by omega)) ?_
  exact rt_i S hr hlk rfl dX2_besideOpen_11
theorem kX2_besideOpen {p : Program} {l : Launch} {e : Env} {R : Room} {s : State} {m : MethodId} {args : Array Value} {below : List Frame} {meth : Method} {c : Code} {H : Heap} {locs : List Loc} {cells slots : Nat} {Q : State → Prop} {cc : ByteArray} {nL index pc : Nat} {own : String} {ls : Array Slot} {rest : List Value} {D : va_G} {K : Nat → ClassId} {b : Nat → Nat} {w n lap : Nat} {op mu ba la en : Nat → Nat} {pr : Nat → Option Nat} {fr : Bool} {co : Nat → Nat → Nat} {cw cj : Nat → Int64} {cl : Nat} {rv : Int64} {rc : Nat} {pj : Nat → Nat → Nat} {pw ch : Nat → Nat} {pl lc : Nat} {tl : Nat → Nat} {i : Nat} (S : CallFix p m c cc nL s args lw_tb own) (hI : PI D K (cW K b w n lap op mu ba la en pr fr co cw cj cl rv rc pj pw ch pl lc tl) s H) (hG : GOK w n lap op mu ba la en pr) (hi : i < 9) (hlink : Cond.methodLink own index yX2_besideOpen ∈ lw_tb) (hR : RO 0 R cells slots) (hsz : ls.size = nL) (hW : (rest.map fun v => v.category).sum ≤ 8) (hdg : decode cc pc = .ok (.invokevirtual index, 3)) (kk : W p l e R s m args below meth c H locs cells slots Q (F0 m (pc + 3) ls (.int (nI (gz op i ||| gz op i <<< 1)) :: rest))) : W p l e R s m args below meth c H locs cells slots Q (F0 m pc ls (.ref (b (19 + i)) :: rest)) :=
  kV (As := []) (b := b (19 + i)) S (mX2_besideOpen l hG hi) hlink tw_349 tw_350 tw_45 tw_351 (by show _ ∧ _ ∧ _ = some 0; decide +kernel) (by decide) hR blP (piU hI) (va_recv hI.2 hI.1 (ci := 2) (q0 := 19 + i) rfl (cw_cr hi)) hsz rfl hW hdg kk

set_option maxHeartbeats 4000000 in
set_option maxRecDepth 100000 in
theorem mX2_keepsWithinSpans (l : Launch) {D : va_G} {K : Nat → ClassId} {b : Nat → Nat} {w n lap : Nat} {op mu ba la en : Nat → Nat} {pr : Nat → Option Nat} {fr : Bool} {co : Nat → Nat → Nat} {cw cj : Nat → Int64} {cl : Nat} {rv : Int64} {rc : Nat} {pj : Nat → Nat → Nat} {pw ch : Nat → Nat} {pl lc : Nat} {tl : Nat → Nat} {i : Nat} {j : Nat} (hG : GOK w n lap op mu ba la en pr) (hi : i < 9) (hj : j < 1024) : Met l yX2_keepsWithinSpans (TWd yX2_keepsWithinSpans cX2_keepsWithinSpans 2 (some .boolean)) (rmk 1) (va_Pc [.ref (b (19 + i)), .int (nI j)] (fun U => PI D K (cW K b w n lap op mu ba la en pr fr co cw cj cl rv rc pj pw ch pl lc tl) U U.heap)) (QcRead (bI (decide (j &&& (gz op i ||| gz op i <<< 1) = 0)))) 0 0 (fun _ => False) := by
  refine mt_of (by decide +kernel) (Nat.le_of_ble_eq_true rfl) ?_
  intro p e s m below meth c S hr hlk hI ls hl
  have S : CallFix p m c cX2_keepsWithinSpans 2 s ([.ref (b (19 + i)), .int (nI j)] : List Value).toArray lw_tb RX2 := S
  have hl : lv_has ls 2 [(0, .ref (b (19 + i))), (1, .int (nI j))] := hl
  obtain ⟨gw1, gw2, gn, gl1, gl2, gop, gmu, gba, gla, gen, gpr, gop2, gmu2, gba2, gla2, gme, gbe, gle, gee⟩ := id hG
  refine lv_iload_n S.1 S.2.1 dX2_keepsWithinSpans_0 rfl (lv_at hl 1 rfl) ?_
  refine lv_aload_n S.1 S.2.1 dX2_keepsWithinSpans_1 rfl (lv_at hl 0 rfl) ?_
  refine kX2_besideOpen S hI hG (by first | omega | exact bwc_lt (by omega)) tw_407 (rok (by decide)) hl.1 (Nat.le_of_ble_eq_true rfl) dX2_keepsWithinSpans_2 ?_
  have b1 : gz op i ||| gz op i <<< 1 < 2048 := bes_lt gop i
  refine lv_iand S.1 S.2.1 dX2_keepsWithinSpans_5 ?_
  refine ly_top (z := nI (j &&& (gz op i ||| gz op i <<< 1))) (nI_and (by omega) (by omega)) ?_
  refine ly_ifne (tgt := 13) S (nI_z2 (Nat.lt_of_le_of_lt Nat.and_le_left (by omega))) (nI_z1 (Nat.lt_of_le_of_lt Nat.and_le_left (by omega))) dX2_keepsWithinSpans_6 (by decide) (fun h2 => ?_) (fun h2 => ?_)
  · skip
    refine lv_iconst (v := nI 0) S.1 S.2.1 dX2_keepsWithinSpans_13 (by decide) ?_
    exact rt_z0 S hr hlk (by simp [h2]) dX2_keepsWithinSpans_14
  · skip
    refine lv_iconst (v := nI 1) S.1 S.2.1 dX2_keepsWithinSpans_9 (by decide) ?_
    refine lv_goto (tgt := 14) S.1 S.2.1 dX2_keepsWithinSpans_10 (by decide) ?_
    exact rt_z1 S hr hlk (by simp [h2]) dX2_keepsWithinSpans_14
theorem kX2_keepsWithinSpans {p : Program} {l : Launch} {e : Env} {R : Room} {s : State} {m : MethodId} {args : Array Value} {below : List Frame} {meth : Method} {c : Code} {H : Heap} {locs : List Loc} {cells slots : Nat} {Q : State → Prop} {cc : ByteArray} {nL index pc : Nat} {own : String} {ls : Array Slot} {rest : List Value} {D : va_G} {K : Nat → ClassId} {b : Nat → Nat} {w n lap : Nat} {op mu ba la en : Nat → Nat} {pr : Nat → Option Nat} {fr : Bool} {co : Nat → Nat → Nat} {cw cj : Nat → Int64} {cl : Nat} {rv : Int64} {rc : Nat} {pj : Nat → Nat → Nat} {pw ch : Nat → Nat} {pl lc : Nat} {tl : Nat → Nat} {i : Nat} {j : Nat} (S : CallFix p m c cc nL s args lw_tb own) (hI : PI D K (cW K b w n lap op mu ba la en pr fr co cw cj cl rv rc pj pw ch pl lc tl) s H) (hG : GOK w n lap op mu ba la en pr) (hi : i < 9) (hj : j < 1024) (hlink : Cond.methodLink own index yX2_keepsWithinSpans ∈ lw_tb) (hR : RO 1 R cells slots) (hsz : ls.size = nL) (hW : (rest.map fun v => v.category).sum ≤ 8) (hdg : decode cc pc = .ok (.invokevirtual index, 3)) (kk : W p l e R s m args below meth c H locs cells slots Q (F0 m (pc + 3) ls (.int (bI (decide (j &&& (gz op i ||| gz op i <<< 1) = 0))) :: rest))) : W p l e R s m args below meth c H locs cells slots Q (F0 m pc ls (.int (nI j) :: .ref (b (19 + i)) :: rest)) :=
  kV (As := [.int (nI j)]) (b := b (19 + i)) S (mX2_keepsWithinSpans l hG hi hj) hlink tw_404 tw_405 tw_45 tw_406 (by show _ ∧ _ ∧ _ = some 1; decide +kernel) (by decide) hR blP (piU hI) (va_recv hI.2 hI.1 (ci := 2) (q0 := 19 + i) rfl (cw_cr hi)) hsz rfl hW hdg kk

set_option maxHeartbeats 4000000 in
set_option maxRecDepth 100000 in
theorem mX2_keepsDemands (l : Launch) {D : va_G} {K : Nat → ClassId} {b : Nat → Nat} {w n lap : Nat} {op mu ba la en : Nat → Nat} {pr : Nat → Option Nat} {fr : Bool} {co : Nat → Nat → Nat} {cw cj : Nat → Int64} {cl : Nat} {rv : Int64} {rc : Nat} {pj : Nat → Nat → Nat} {pw ch : Nat → Nat} {pl lc : Nat} {tl : Nat → Nat} {i : Nat} {j : Nat} (hG : GOK w n lap op mu ba la en pr) (hi : i < 9) (hj : j < 1024) : Met l yX2_keepsDemands (TWd yX2_keepsDemands cX2_keepsDemands 2 (some .boolean)) (rmk 0) (va_Pc [.ref (b (19 + i)), .int (nI j)] (fun U => PI D K (cW K b w n lap op mu ba la en pr fr co cw cj cl rv rc pj pw ch pl lc tl) U U.heap)) (QcRead (bI (decide (j &&& gz mu i = gz mu i) && decide (j &&& gz ba i = 0)))) 0 0 (fun _ => False) := by
  refine mt_of (by decide +kernel) (Nat.le_of_ble_eq_true rfl) ?_
  intro p e s m below meth c S hr hlk hI ls hl
  have S : CallFix p m c cX2_keepsDemands 2 s ([.ref (b (19 + i)), .int (nI j)] : List Value).toArray lw_tb RX2 := S
  have hl : lv_has ls 2 [(0, .ref (b (19 + i))), (1, .int (nI j))] := hl
  obtain ⟨gw1, gw2, gn, gl1, gl2, gop, gmu, gba, gla, gen, gpr, gop2, gmu2, gba2, gla2, gme, gbe, gle, gee⟩ := id hG
  have o1 := gz_le gmu (by decide) i
  have o2 := gz_le gba (by decide) i
  refine lv_iload_n S.1 S.2.1 dX2_keepsDemands_0 rfl (lv_at hl 1 rfl) ?_
  refine lv_aload_n S.1 S.2.1 dX2_keepsDemands_1 rfl (lv_at hl 0 rfl) ?_
  refine g2 S hI (19 + i) (cw_cr (by omega)) 1 (by decide) tw_105 rfl dX2_keepsDemands_2 ?_
  refine lv_iand S.1 S.2.1 dX2_keepsDemands_5 ?_
  refine ly_top (z := nI (j &&& (gz mu i))) (nI_and (by omega) (by omega)) ?_
  refine lv_aload_n S.1 S.2.1 dX2_keepsDemands_6 rfl (lv_at hl 0 rfl) ?_
  refine g2 S hI (19 + i) (cw_cr (by omega)) 1 (by decide) tw_105 rfl dX2_keepsDemands_7 ?_
  refine ly_cmne (tgt := 26) S (nI_e2 (Nat.lt_of_le_of_lt Nat.and_le_left (by omega)) (by omega)) (nI_e1 (Nat.lt_of_le_of_lt Nat.and_le_left (by omega)) (by omega)) dX2_keepsDemands_10 (by decide) (fun h1 => ?_) (fun h1 => ?_)
  · skip
    refine lv_iconst (v := nI 0) S.1 S.2.1 dX2_keepsDemands_26 (by decide) ?_
    exact rt_z0 S hr hlk (by simp [h1]) dX2_keepsDemands_27
  · skip
    refine lv_iload_n S.1 S.2.1 dX2_keepsDemands_13 rfl (lv_at hl 1 rfl) ?_
    refine lv_aload_n S.1 S.2.1 dX2_keepsDemands_14 rfl (lv_at hl 0 rfl) ?_
    refine g2 S hI (19 + i) (cw_cr (by omega)) 2 (by decide) tw_107 rfl dX2_keepsDemands_15 ?_
    refine lv_iand S.1 S.2.1 dX2_keepsDemands_18 ?_
    refine ly_top (z := nI (j &&& (gz ba i))) (nI_and (by omega) (by omega)) ?_
    refine ly_ifne (tgt := 26) S (nI_z2 (Nat.lt_of_le_of_lt Nat.and_le_left (by omega))) (nI_z1 (Nat.lt_of_le_of_lt Nat.and_le_left (by omega))) dX2_keepsDemands_19 (by decide) (fun h2 => ?_) (fun h2 => ?_)
    · skip
      refine lv_iconst (v := nI 0) S.1 S.2.1 dX2_keepsDemands_26 (by decide) ?_
      exact rt_z0 S hr hlk (by simp [h1, h2]) dX2_keepsDemands_27
    · skip
      refine lv_iconst (v := nI 1) S.1 S.2.1 dX2_keepsDemands_22 (by decide) ?_
      refine lv_goto (tgt := 27) S.1 S.2.1 dX2_keepsDemands_23 (by decide) ?_
      exact rt_z1 S hr hlk (by simp [h1, h2]) dX2_keepsDemands_27
theorem kX2_keepsDemands {p : Program} {l : Launch} {e : Env} {R : Room} {s : State} {m : MethodId} {args : Array Value} {below : List Frame} {meth : Method} {c : Code} {H : Heap} {locs : List Loc} {cells slots : Nat} {Q : State → Prop} {cc : ByteArray} {nL index pc : Nat} {own : String} {ls : Array Slot} {rest : List Value} {D : va_G} {K : Nat → ClassId} {b : Nat → Nat} {w n lap : Nat} {op mu ba la en : Nat → Nat} {pr : Nat → Option Nat} {fr : Bool} {co : Nat → Nat → Nat} {cw cj : Nat → Int64} {cl : Nat} {rv : Int64} {rc : Nat} {pj : Nat → Nat → Nat} {pw ch : Nat → Nat} {pl lc : Nat} {tl : Nat → Nat} {i : Nat} {j : Nat} (S : CallFix p m c cc nL s args lw_tb own) (hI : PI D K (cW K b w n lap op mu ba la en pr fr co cw cj cl rv rc pj pw ch pl lc tl) s H) (hG : GOK w n lap op mu ba la en pr) (hi : i < 9) (hj : j < 1024) (hlink : Cond.methodLink own index yX2_keepsDemands ∈ lw_tb) (hR : RO 0 R cells slots) (hsz : ls.size = nL) (hW : (rest.map fun v => v.category).sum ≤ 8) (hdg : decode cc pc = .ok (.invokevirtual index, 3)) (kk : W p l e R s m args below meth c H locs cells slots Q (F0 m (pc + 3) ls (.int (bI (decide (j &&& gz mu i = gz mu i) && decide (j &&& gz ba i = 0))) :: rest))) : W p l e R s m args below meth c H locs cells slots Q (F0 m pc ls (.int (nI j) :: .ref (b (19 + i)) :: rest)) :=
  kV (As := [.int (nI j)]) (b := b (19 + i)) S (mX2_keepsDemands l hG hi hj) hlink tw_409 tw_410 tw_45 tw_411 (by show _ ∧ _ ∧ _ = some 1; decide +kernel) (by decide) hR blP (piU hI) (va_recv hI.2 hI.1 (ci := 2) (q0 := 19 + i) rfl (cw_cr hi)) hsz rfl hW hdg kk

set_option maxHeartbeats 4000000 in
set_option maxRecDepth 100000 in
theorem mX2_clear (l : Launch) {D : va_G} {K : Nat → ClassId} {b : Nat → Nat} {w n lap : Nat} {op mu ba la en : Nat → Nat} {pr : Nat → Option Nat} {fr : Bool} {co : Nat → Nat → Nat} {cw cj : Nat → Int64} {cl : Nat} {rv : Int64} {rc : Nat} {pj : Nat → Nat → Nat} {pw ch : Nat → Nat} {pl lc : Nat} {tl : Nat → Nat} {i : Nat} (hDis : Dis b 44) (hi : i < 9) (hi8 : i < 8) : Met l yX2_clear (TWd yX2_clear cX2_clear 1 none) (rmk 0) (va_Pc [.ref (b (19 + i))] (fun U => PI D K (cW K b w n lap op mu ba la en pr fr co cw cj cl rv rc pj pw ch pl lc tl) U U.heap)) (QX D K (fun u : Unit => none) (fun u => (cW K b w n lap (va_up op i 0) (va_up mu i 0) (va_up ba i 0) (va_up la i 0) en pr fr co cw cj cl rv rc pj pw ch pl lc tl)) (fun u => True) (adA b 44)) 0 0 (adA b 44) := by
  refine mt_of (by decide +kernel) (Nat.le_of_ble_eq_true rfl) ?_
  intro p e s m below meth c S hr hlk hI ls hl
  have S : CallFix p m c cX2_clear 1 s ([.ref (b (19 + i))] : List Value).toArray lw_tb RX2 := S
  have hl : lv_has ls 1 [(0, .ref (b (19 + i)))] := hl
  have hS : va_S (adA b 44) s.heap s.heap [] := va_S.rf
  refine lv_aload_n S.1 S.2.1 dX2_clear_0 rfl (lv_at hl 0 rfl) ?_
  refine lv_iconst (v := nI 0) S.1 S.2.1 dX2_clear_1 (by decide) ?_
  refine p2 (ws' := (cW K b w n lap (va_up op i 0) mu ba la en pr fr co cw cj cl rv rc pj pw ch pl lc tl)) S hI (cD hDis) hS (19 + i) (cw_cr (by omega)) 0 (by decide) tw_102 rfl rfl rfl rfl (Nat.le_of_ble_eq_true rfl) (cs_op (by omega)) dX2_clear_2 (fun H locs hI hS => ?_)
  refine lv_aload_n S.1 S.2.1 dX2_clear_5 rfl (lv_at hl 0 rfl) ?_
  refine lv_iconst (v := nI 0) S.1 S.2.1 dX2_clear_6 (by decide) ?_
  refine p2 (ws' := (cW K b w n lap (va_up op i 0) (va_up mu i 0) ba la en pr fr co cw cj cl rv rc pj pw ch pl lc tl)) S hI (cD hDis) hS (19 + i) (cw_cr (by omega)) 1 (by decide) tw_105 rfl rfl rfl rfl (Nat.le_of_ble_eq_true rfl) (cs_mu (by omega)) dX2_clear_7 (fun H locs hI hS => ?_)
  refine lv_aload_n S.1 S.2.1 dX2_clear_10 rfl (lv_at hl 0 rfl) ?_
  refine lv_iconst (v := nI 0) S.1 S.2.1 dX2_clear_11 (by decide) ?_
  refine p2 (ws' := (cW K b w n lap (va_up op i 0) (va_up mu i 0) (va_up ba i 0) la en pr fr co cw cj cl rv rc pj pw ch pl lc tl)) S hI (cD hDis) hS (19 + i) (cw_cr (by omega)) 2 (by decide) tw_107 rfl rfl rfl rfl (Nat.le_of_ble_eq_true rfl) (cs_ba (by omega)) dX2_clear_12 (fun H locs hI hS => ?_)
  refine lv_aload_n S.1 S.2.1 dX2_clear_15 rfl (lv_at hl 0 rfl) ?_
  refine lv_iconst (v := nI 0) S.1 S.2.1 dX2_clear_16 (by decide) ?_
  refine p2 (ws' := (cW K b w n lap (va_up op i 0) (va_up mu i 0) (va_up ba i 0) (va_up la i 0) en pr fr co cw cj cl rv rc pj pw ch pl lc tl)) S hI (cD hDis) hS (19 + i) (cw_cr (by omega)) 3 (by decide) tw_109 rfl rfl rfl rfl (Nat.le_of_ble_eq_true rfl) (cs_la (by omega)) dX2_clear_17 (fun H locs hI hS => ?_)
  exact rw_v S hr hlk () rfl trivial hI hS dX2_clear_20
theorem kX2_clear {p : Program} {l : Launch} {e : Env} {R : Room} {s : State} {m : MethodId} {args : Array Value} {below : List Frame} {meth : Method} {c : Code} {H H0 : Heap} {locs : List Loc} {cells slots : Nat} {Q : State → Prop} {cc : ByteArray} {nL index pc : Nat} {own : String} {ls : Array Slot} {rest : List Value} {D : va_G} {K : Nat → ClassId} {b : Nat → Nat} {w n lap : Nat} {op mu ba la en : Nat → Nat} {pr : Nat → Option Nat} {fr : Bool} {co : Nat → Nat → Nat} {cw cj : Nat → Int64} {cl : Nat} {rv : Int64} {rc : Nat} {pj : Nat → Nat → Nat} {pw ch : Nat → Nat} {pl lc : Nat} {tl : Nat → Nat} {i : Nat} (S : CallFix p m c cc nL s args lw_tb own) (hI : PI D K (cW K b w n lap op mu ba la en pr fr co cw cj cl rv rc pj pw ch pl lc tl) s H) (hS : va_S (adA b 44) H0 H locs) (hDis : Dis b 44) (hi : i < 9) (hi8 : i < 8) (hlink : Cond.methodLink own index yX2_clear ∈ lw_tb) (hR : RO 0 R cells slots) (hsz : ls.size = nL) (hW : (rest.map fun v => v.category).sum ≤ 8) (hdg : decode cc pc = .ok (.invokevirtual index, 3)) (kk : ∀ (u : Unit) (H1 : Heap) (locs1 : List Loc), (True) → PI D K (cW K b w n lap (va_up op i 0) (va_up mu i 0) (va_up ba i 0) (va_up la i 0) en pr fr co cw cj cl rv rc pj pw ch pl lc tl) s H1 → va_S (adA b 44) H0 H1 locs1 → H.size ≤ H1.size → (∀ q : Nat, q < H.size → ¬ (adA b 44) q → H1[q]? = H[q]?) → W p l e R s m args below meth c H1 locs1 cells slots Q (F0 m (pc + 3) ls (rest))) : W p l e R s m args below meth c H locs cells slots Q (F0 m pc ls (.ref (b (19 + i)) :: rest)) :=
  kVX (As := []) (b := b (19 + i)) S (mX2_clear l hDis hi hi8) hlink tw_281 tw_282 tw_45 tw_283 (by show _ ∧ _ ∧ _ = some 0; decide +kernel) (by decide) hR blP (piU hI) (va_recv hI.2 hI.1 (ci := 2) (q0 := 19 + i) rfl (cw_cr hi)) hS (fun _ h => h) hsz rfl hW hdg kk

set_option maxHeartbeats 4000000 in
set_option maxRecDepth 100000 in
theorem mX6_has (l : Launch) {D : va_G} {K : Nat → ClassId} {b : Nat → Nat} {w n lap : Nat} {op mu ba la en : Nat → Nat} {pr : Nat → Option Nat} {fr : Bool} {co : Nat → Nat → Nat} {cw cj : Nat → Int64} {cl : Nat} {rv : Int64} {rc : Nat} {pj : Nat → Nat → Nat} {pw ch : Nat → Nat} {pl lc : Nat} {tl : Nat → Nat} {v : Int32} (hG : GOK w n lap op mu ba la en pr) : Met l yX6_has (TWd yX6_has cX6_has 2 (some .boolean)) (rmk 0) (va_Pc [.ref (b 1), .int v] (fun U => PI D K (cW K b w n lap op mu ba la en pr fr co cw cj cl rv rc pj pw ch pl lc tl) U U.heap)) (QcRead (bI (wiI v 0 (nI n - 1)))) 0 0 (fun _ => False) := by
  refine mt_of (by decide +kernel) (Nat.le_of_ble_eq_true rfl) ?_
  intro p e s m below meth c S hr hlk hI ls hl
  have S : CallFix p m c cX6_has 2 s ([.ref (b 1), .int v] : List Value).toArray lw_tb RX6 := S
  have hl : lv_has ls 2 [(0, .ref (b 1)), (1, .int v)] := hl
  obtain ⟨gw1, gw2, gn, gl1, gl2, gop, gmu, gba, gla, gen, gpr, gop2, gmu2, gba2, gla2, gme, gbe, gle, gee⟩ := id hG
  refine lv_iload_n S.1 S.2.1 dX6_has_0 rfl (lv_at hl 1 rfl) ?_
  refine ly_iflt (tgt := 16) S (fun q => q) (fun q => q) dX6_has_1 (by decide) (fun h1 => ?_) (fun h1 => ?_)
  · skip
    refine lv_iconst (v := nI 0) S.1 S.2.1 dX6_has_16 (by decide) ?_
    exact rt_z0 S hr hlk (wiI_l h1) dX6_has_17
  · skip
    refine lv_iload_n S.1 S.2.1 dX6_has_4 rfl (lv_at hl 1 rfl) ?_
    refine lv_aload_n S.1 S.2.1 dX6_has_5 rfl (lv_at hl 0 rfl) ?_
    refine g6 S hI 1 rfl 4 (by decide) tw_128 rfl dX6_has_6 ?_
    refine ly_cmge (tgt := 16) S (fun q => q) (fun q => q) dX6_has_9 (by decide) (fun h2 => ?_) (fun h2 => ?_)
    · skip
      refine lv_iconst (v := nI 0) S.1 S.2.1 dX6_has_16 (by decide) ?_
      exact rt_z0 S hr hlk (wiH_f h2 (by omega)) dX6_has_17
    · skip
      refine lv_iconst (v := nI 1) S.1 S.2.1 dX6_has_12 (by decide) ?_
      refine lv_goto (tgt := 17) S.1 S.2.1 dX6_has_13 (by decide) ?_
      exact rt_z1 S hr hlk (wiH_t h1 h2 (by omega)) dX6_has_17
theorem kX6_has {p : Program} {l : Launch} {e : Env} {R : Room} {s : State} {m : MethodId} {args : Array Value} {below : List Frame} {meth : Method} {c : Code} {H : Heap} {locs : List Loc} {cells slots : Nat} {Q : State → Prop} {cc : ByteArray} {nL index pc : Nat} {own : String} {ls : Array Slot} {rest : List Value} {D : va_G} {K : Nat → ClassId} {b : Nat → Nat} {w n lap : Nat} {op mu ba la en : Nat → Nat} {pr : Nat → Option Nat} {fr : Bool} {co : Nat → Nat → Nat} {cw cj : Nat → Int64} {cl : Nat} {rv : Int64} {rc : Nat} {pj : Nat → Nat → Nat} {pw ch : Nat → Nat} {pl lc : Nat} {tl : Nat → Nat} {v : Int32} (S : CallFix p m c cc nL s args lw_tb own) (hI : PI D K (cW K b w n lap op mu ba la en pr fr co cw cj cl rv rc pj pw ch pl lc tl) s H) (hG : GOK w n lap op mu ba la en pr) (hlink : Cond.methodLink own index yX6_has ∈ lw_tb) (hR : RO 0 R cells slots) (hsz : ls.size = nL) (hW : (rest.map fun v => v.category).sum ≤ 8) (hdg : decode cc pc = .ok (.invokevirtual index, 3)) (kk : W p l e R s m args below meth c H locs cells slots Q (F0 m (pc + 3) ls (.int (bI (wiI v 0 (nI n - 1))) :: rest))) : W p l e R s m args below meth c H locs cells slots Q (F0 m pc ls (.int v :: .ref (b 1) :: rest)) :=
  kV (As := [.int v]) (b := b 1) S (mX6_has l hG) hlink tw_293 tw_294 tw_43 tw_295 (by show _ ∧ _ ∧ _ = some 1; decide +kernel) (by decide) hR blP (piU hI) (va_recv hI.2 hI.1 (ci := 6) (q0 := 1) rfl rfl) hsz rfl hW hdg kk

set_option maxHeartbeats 4000000 in
set_option maxRecDepth 100000 in
theorem mX6_at_c (l : Launch) {D : va_G} {K : Nat → ClassId} {b : Nat → Nat} {w n lap : Nat} {op mu ba la en : Nat → Nat} {pr : Nat → Option Nat} {fr : Bool} {co : Nat → Nat → Nat} {cw cj : Nat → Int64} {cl : Nat} {rv : Int64} {rc : Nat} {pj : Nat → Nat → Nat} {pw ch : Nat → Nat} {pl lc : Nat} {tl : Nat → Nat} {ci : Nat} (hc : ci < n) (gn : n ≤ 8) : Met l yX6_at (TWd yX6_at cX6_at 3 (some (.object "BondedWall$Course"))) (rmk 0) (va_Pc [.ref (b 1), .int (nI ci)] (fun U => PI D K (cW K b w n lap op mu ba la en pr fr co cw cj cl rv rc pj pw ch pl lc tl) U U.heap)) (QcV (.ref (b (19 + ci)))) 0 0 (fun _ => False) := by
  refine mt_of (by decide +kernel) (Nat.le_of_ble_eq_true rfl) ?_
  intro p e s m below meth c S hr hlk hI ls hl
  have S : CallFix p m c cX6_at 3 s ([.ref (b 1), .int (nI ci)] : List Value).toArray lw_tb RX6 := S
  have hl : lv_has ls 3 [(0, .ref (b 1)), (1, .int (nI ci))] := hl
  refine lv_iload_n S.1 S.2.1 dX6_at_0 rfl (lv_at hl 1 rfl) ?_
  refine ly_iflt (tgt := 21) S (fun q => (nI_n1 (by omega) q : False)) (fun q => nI_n2 q) dX6_at_1 (by decide) (fun h1 => ?_) (fun h1 => ?_)
  · skip
    exact h1.elim
  · skip
    refine lv_iload_n S.1 S.2.1 dX6_at_4 rfl (lv_at hl 1 rfl) ?_
    refine lv_aload_n S.1 S.2.1 dX6_at_5 rfl (lv_at hl 0 rfl) ?_
    refine g6 S hI 1 rfl 4 (by decide) tw_128 rfl dX6_at_6 ?_
    refine ly_cmge (tgt := 21) S (nI_le1 (by omega) (by omega)) (nI_le2 (by omega) (by omega)) dX6_at_9 (by decide) (fun h2 => ?_) (fun h2 => ?_)
    · skip
      exact absurd h2 (by omega)
    · skip
      refine lv_iload_n S.1 S.2.1 dX6_at_12 rfl (lv_at hl 1 rfl) ?_
      refine lv_aload_n S.1 S.2.1 dX6_at_13 rfl (lv_at hl 0 rfl) ?_
      refine g6 S hI 1 rfl 1 (by decide) tw_123 rfl dX6_at_14 ?_
      refine ly_alen (t0 := 3) (v := nI 8) S hI 3 rfl rfl rfl dX6_at_17 ?_
      refine ly_cmlt (tgt := 25) S (nI_l1 (by omega) (by omega)) (nI_l2 (by omega) (by omega)) dX6_at_18 (by decide) (fun h3 => ?_) (fun h3 => ?_)
      · skip
        refine lv_iconst (v := nI 0) S.1 S.2.1 dX6_at_25 (by decide) ?_
        refine lv_istore_n (lv' := [(2, .int (nI 0)), (0, .ref (b 1)), (1, .int (nI ci))]) S.1 S.2.1 dX6_at_26 rfl hl (by decide) rfl (fun ls hl => ?_)
        refine lv_iload_n S.1 S.2.1 dX6_at_27 rfl (lv_at hl 0 rfl) ?_
        refine ly_ifeq (tgt := 38) S (nI_z1 (by omega)) (nI_z2 (by omega)) dX6_at_28 (by decide) (fun h4 => ?_) (fun h4 => ?_)
        · skip
          refine lv_aload_n S.1 S.2.1 dX6_at_38 rfl (lv_at hl 1 rfl) ?_
          refine g6 S hI 1 rfl 1 (by decide) tw_123 rfl dX6_at_39 ?_
          refine lv_iload_n S.1 S.2.1 dX6_at_42 rfl (lv_at hl 2 rfl) ?_
          refine ly_aald (t0 := 3) (v := b (19 + ci)) S hI 3 rfl rfl rfl (by omega) (by decide) rfl dX6_at_43 ?_
          exact rt_a S hr hlk rfl dX6_at_44
        · skip
          exact absurd h4 (by decide)
      · skip
        exact absurd h3 (by omega)
theorem kX6_at_c {p : Program} {l : Launch} {e : Env} {R : Room} {s : State} {m : MethodId} {args : Array Value} {below : List Frame} {meth : Method} {c : Code} {H : Heap} {locs : List Loc} {cells slots : Nat} {Q : State → Prop} {cc : ByteArray} {nL index pc : Nat} {own : String} {ls : Array Slot} {rest : List Value} {D : va_G} {K : Nat → ClassId} {b : Nat → Nat} {w n lap : Nat} {op mu ba la en : Nat → Nat} {pr : Nat → Option Nat} {fr : Bool} {co : Nat → Nat → Nat} {cw cj : Nat → Int64} {cl : Nat} {rv : Int64} {rc : Nat} {pj : Nat → Nat → Nat} {pw ch : Nat → Nat} {pl lc : Nat} {tl : Nat → Nat} {ci : Nat} (S : CallFix p m c cc nL s args lw_tb own) (hI : PI D K (cW K b w n lap op mu ba la en pr fr co cw cj cl rv rc pj pw ch pl lc tl) s H) (hc : ci < n) (gn : n ≤ 8) (hlink : Cond.methodLink own index yX6_at ∈ lw_tb) (hR : RO 0 R cells slots) (hsz : ls.size = nL) (hW : (rest.map fun v => v.category).sum ≤ 8) (hdg : decode cc pc = .ok (.invokevirtual index, 3)) (kk : W p l e R s m args below meth c H locs cells slots Q (F0 m (pc + 3) ls (.ref (b (19 + ci)) :: rest))) : W p l e R s m args below meth c H locs cells slots Q (F0 m pc ls (.int (nI ci) :: .ref (b 1) :: rest)) :=
  kVa (As := [.int (nI ci)]) (b := b 1) S (mX6_at_c l hc gn) hlink tw_277 tw_278 tw_43 tw_279 (by show _ ∧ _ ∧ _ = some 1; decide +kernel) (by decide) hR blP (piU hI) (va_recv hI.2 hI.1 (ci := 6) (q0 := 1) rfl rfl) hsz rfl hW hdg kk

set_option maxHeartbeats 4000000 in
set_option maxRecDepth 100000 in
theorem mX6_at_b (l : Launch) {D : va_G} {K : Nat → ClassId} {b : Nat → Nat} {w n lap : Nat} {op mu ba la en : Nat → Nat} {pr : Nat → Option Nat} {fr : Bool} {co : Nat → Nat → Nat} {cw cj : Nat → Int64} {cl : Nat} {rv : Int64} {rc : Nat} {pj : Nat → Nat → Nat} {pw ch : Nat → Nat} {pl lc : Nat} {tl : Nat → Nat} {ci : Nat} (hc : ci ≤ n) (gn : n ≤ 8) : Met l yX6_at (TWd yX6_at cX6_at 3 (some (.object "BondedWall$Course"))) (rmk 0) (va_Pc [.ref (b 1), .int ((nI ci) - (nI 1))] (fun U => PI D K (cW K b w n lap op mu ba la en pr fr co cw cj cl rv rc pj pw ch pl lc tl) U U.heap)) (QcV (.ref (b (19 + bwc ci)))) 0 0 (fun _ => False) := by
  refine mt_of (by decide +kernel) (Nat.le_of_ble_eq_true rfl) ?_
  intro p e s m below meth c S hr hlk hI ls hl
  have S : CallFix p m c cX6_at 3 s ([.ref (b 1), .int ((nI ci) - (nI 1))] : List Value).toArray lw_tb RX6 := S
  have hl : lv_has ls 3 [(0, .ref (b 1)), (1, .int ((nI ci) - (nI 1)))] := hl
  refine lv_iload_n S.1 S.2.1 dX6_at_0 rfl (lv_at hl 1 rfl) ?_
  refine ly_iflt (tgt := 21) S (fun q => q) (fun q => q) dX6_at_1 (by decide) (fun h1 => ?_) (fun h1 => ?_)
  · skip
    have k0 := sub1_lt (by omega) h1
    refine lv_iconst (v := nI 1) S.1 S.2.1 dX6_at_21 (by decide) ?_
    refine lv_goto (tgt := 26) S.1 S.2.1 dX6_at_22 (by decide) ?_
    refine lv_istore_n (lv' := [(2, .int (nI 1)), (0, .ref (b 1)), (1, .int ((nI ci) - (nI 1)))]) S.1 S.2.1 dX6_at_26 rfl hl (by decide) rfl (fun ls hl => ?_)
    refine lv_iload_n S.1 S.2.1 dX6_at_27 rfl (lv_at hl 0 rfl) ?_
    refine ly_ifeq (tgt := 38) S (nI_z1 (by omega)) (nI_z2 (by omega)) dX6_at_28 (by decide) (fun h2 => ?_) (fun h2 => ?_)
    · skip
      exact absurd h2 (by decide)
    · skip
      refine lv_aload_n S.1 S.2.1 dX6_at_31 rfl (lv_at hl 1 rfl) ?_
      refine g6 S hI 1 rfl 2 (by decide) tw_124 rfl dX6_at_32 ?_
      refine lv_goto (tgt := 44) S.1 S.2.1 dX6_at_35 (by decide) ?_
      exact rt_a S hr hlk (by unfold bwc; rw [if_pos k0]) dX6_at_44
  · skip
    have k1 := sub1_ge (by omega) h1
    rw [show (nI ci) - (nI 1) = nI (ci - 1) from pk_sub k1] at hl
    refine lv_iload_n S.1 S.2.1 dX6_at_4 rfl (lv_at hl 1 rfl) ?_
    refine lv_aload_n S.1 S.2.1 dX6_at_5 rfl (lv_at hl 0 rfl) ?_
    refine g6 S hI 1 rfl 4 (by decide) tw_128 rfl dX6_at_6 ?_
    refine ly_cmge (tgt := 21) S (nI_le1 (by omega) (by omega)) (nI_le2 (by omega) (by omega)) dX6_at_9 (by decide) (fun h3 => ?_) (fun h3 => ?_)
    · skip
      exact absurd h3 (by omega)
    · skip
      refine lv_iload_n S.1 S.2.1 dX6_at_12 rfl (lv_at hl 1 rfl) ?_
      refine lv_aload_n S.1 S.2.1 dX6_at_13 rfl (lv_at hl 0 rfl) ?_
      refine g6 S hI 1 rfl 1 (by decide) tw_123 rfl dX6_at_14 ?_
      refine ly_alen (t0 := 3) (v := nI 8) S hI 3 rfl rfl rfl dX6_at_17 ?_
      refine ly_cmlt (tgt := 25) S (nI_l1 (by omega) (by omega)) (nI_l2 (by omega) (by omega)) dX6_at_18 (by decide) (fun h4 => ?_) (fun h4 => ?_)
      · skip
        refine lv_iconst (v := nI 0) S.1 S.2.1 dX6_at_25 (by decide) ?_
        refine lv_istore_n (lv' := [(2, .int (nI 0)), (0, .ref (b 1)), (1, .int (nI (ci - 1)))]) S.1 S.2.1 dX6_at_26 rfl hl (by decide) rfl (fun ls hl => ?_)
        refine lv_iload_n S.1 S.2.1 dX6_at_27 rfl (lv_at hl 0 rfl) ?_
        refine ly_ifeq (tgt := 38) S (nI_z1 (by omega)) (nI_z2 (by omega)) dX6_at_28 (by decide) (fun h5 => ?_) (fun h5 => ?_)
        · skip
          refine lv_aload_n S.1 S.2.1 dX6_at_38 rfl (lv_at hl 1 rfl) ?_
          refine g6 S hI 1 rfl 1 (by decide) tw_123 rfl dX6_at_39 ?_
          refine lv_iload_n S.1 S.2.1 dX6_at_42 rfl (lv_at hl 2 rfl) ?_
          refine ly_aald (t0 := 3) (v := b (19 + (ci - 1))) S hI 3 rfl rfl rfl (by omega) (by decide) rfl dX6_at_43 ?_
          exact rt_a S hr hlk (by unfold bwc; rw [if_neg (by omega)]) dX6_at_44
        · skip
          exact absurd h5 (by decide)
      · skip
        exact absurd h4 (by omega)
theorem kX6_at_b {p : Program} {l : Launch} {e : Env} {R : Room} {s : State} {m : MethodId} {args : Array Value} {below : List Frame} {meth : Method} {c : Code} {H : Heap} {locs : List Loc} {cells slots : Nat} {Q : State → Prop} {cc : ByteArray} {nL index pc : Nat} {own : String} {ls : Array Slot} {rest : List Value} {D : va_G} {K : Nat → ClassId} {b : Nat → Nat} {w n lap : Nat} {op mu ba la en : Nat → Nat} {pr : Nat → Option Nat} {fr : Bool} {co : Nat → Nat → Nat} {cw cj : Nat → Int64} {cl : Nat} {rv : Int64} {rc : Nat} {pj : Nat → Nat → Nat} {pw ch : Nat → Nat} {pl lc : Nat} {tl : Nat → Nat} {ci : Nat} (S : CallFix p m c cc nL s args lw_tb own) (hI : PI D K (cW K b w n lap op mu ba la en pr fr co cw cj cl rv rc pj pw ch pl lc tl) s H) (hc : ci ≤ n) (gn : n ≤ 8) (hlink : Cond.methodLink own index yX6_at ∈ lw_tb) (hR : RO 0 R cells slots) (hsz : ls.size = nL) (hW : (rest.map fun v => v.category).sum ≤ 8) (hdg : decode cc pc = .ok (.invokevirtual index, 3)) (kk : W p l e R s m args below meth c H locs cells slots Q (F0 m (pc + 3) ls (.ref (b (19 + bwc ci)) :: rest))) : W p l e R s m args below meth c H locs cells slots Q (F0 m pc ls (.int ((nI ci) - (nI 1)) :: .ref (b 1) :: rest)) :=
  kVa (As := [.int ((nI ci) - (nI 1))]) (b := b 1) S (mX6_at_b l hc gn) hlink tw_277 tw_278 tw_43 tw_279 (by show _ ∧ _ ∧ _ = some 1; decide +kernel) (by decide) hR blP (piU hI) (va_recv hI.2 hI.1 (ci := 6) (q0 := 1) rfl rfl) hsz rfl hW hdg kk

set_option maxHeartbeats 4000000 in
set_option maxRecDepth 100000 in
theorem mX6_cells (l : Launch) {D : va_G} {K : Nat → ClassId} {b : Nat → Nat} {w n lap : Nat} {op mu ba la en : Nat → Nat} {pr : Nat → Option Nat} {fr : Bool} {co : Nat → Nat → Nat} {cw cj : Nat → Int64} {cl : Nat} {rv : Int64} {rc : Nat} {pj : Nat → Nat → Nat} {pw ch : Nat → Nat} {pl lc : Nat} {tl : Nat → Nat} (hG : GOK w n lap op mu ba la en pr) : Met l yX6_cells (TWd yX6_cells cX6_cells 1 (some .int)) (rmk 0) (va_Pc [.ref (b 1)] (fun U => PI D K (cW K b w n lap op mu ba la en pr fr co cw cj cl rv rc pj pw ch pl lc tl) U U.heap)) (QcRead (nI (2 ^ w - 1))) 0 0 (fun _ => False) := by
  refine mt_of (by decide +kernel) (Nat.le_of_ble_eq_true rfl) ?_
  intro p e s m below meth c S hr hlk hI ls hl
  have S : CallFix p m c cX6_cells 1 s ([.ref (b 1)] : List Value).toArray lw_tb RX6 := S
  have hl : lv_has ls 1 [(0, .ref (b 1))] := hl
  obtain ⟨gw1, gw2, gn, gl1, gl2, gop, gmu, gba, gla, gen, gpr, gop2, gmu2, gba2, gla2, gme, gbe, gle, gee⟩ := id hG
  have sw : 1 <<< w = 2 ^ w := Nat.one_shiftLeft w
  have pw : 2 ^ w ≤ 2 ^ 10 := Nat.pow_le_pow_right (by decide) gw2
  have pw3 : 2 ^ 2 ≤ 2 ^ w := Nat.pow_le_pow_right (by decide) gw1
  have pw0 : 2 ^ w ≤ 1024 := pw
  have pw4 : 4 ≤ 2 ^ w := pw3
  refine lv_iconst (v := nI 1) S.1 S.2.1 dX6_cells_0 (by decide) ?_
  refine lv_aload_n S.1 S.2.1 dX6_cells_1 rfl (lv_at hl 0 rfl) ?_
  refine g6 S hI 1 rfl 3 (by decide) tw_125 rfl dX6_cells_2 ?_
  refine lv_ishl S.1 S.2.1 dX6_cells_5 ?_
  refine ly_top (z := nI (1 <<< w)) (nI_shl (by omega) (by rw [sw]; omega)) ?_
  refine ly_top (z := (nI (2 ^ w))) (by rw [sw]) ?_
  refine lv_iconst (v := nI 1) S.1 S.2.1 dX6_cells_6 (by decide) ?_
  refine lv_isub S.1 S.2.1 dX6_cells_7 ?_
  refine ly_top (z := nI ((2 ^ w) - 1)) (pk_sub (by omega)) ?_
  exact rt_i S hr hlk rfl dX6_cells_8
theorem kX6_cells {p : Program} {l : Launch} {e : Env} {R : Room} {s : State} {m : MethodId} {args : Array Value} {below : List Frame} {meth : Method} {c : Code} {H : Heap} {locs : List Loc} {cells slots : Nat} {Q : State → Prop} {cc : ByteArray} {nL index pc : Nat} {own : String} {ls : Array Slot} {rest : List Value} {D : va_G} {K : Nat → ClassId} {b : Nat → Nat} {w n lap : Nat} {op mu ba la en : Nat → Nat} {pr : Nat → Option Nat} {fr : Bool} {co : Nat → Nat → Nat} {cw cj : Nat → Int64} {cl : Nat} {rv : Int64} {rc : Nat} {pj : Nat → Nat → Nat} {pw ch : Nat → Nat} {pl lc : Nat} {tl : Nat → Nat} (S : CallFix p m c cc nL s args lw_tb own) (hI : PI D K (cW K b w n lap op mu ba la en pr fr co cw cj cl rv rc pj pw ch pl lc tl) s H) (hG : GOK w n lap op mu ba la en pr) (hlink : Cond.methodLink own index yX6_cells ∈ lw_tb) (hR : RO 0 R cells slots) (hsz : ls.size = nL) (hW : (rest.map fun v => v.category).sum ≤ 8) (hdg : decode cc pc = .ok (.invokevirtual index, 3)) (kk : W p l e R s m args below meth c H locs cells slots Q (F0 m (pc + 3) ls (.int (nI (2 ^ w - 1)) :: rest))) : W p l e R s m args below meth c H locs cells slots Q (F0 m pc ls (.ref (b 1) :: rest)) :=
  kV (As := []) (b := b 1) S (mX6_cells l hG) hlink tw_297 tw_298 tw_43 tw_299 (by show _ ∧ _ ∧ _ = some 0; decide +kernel) (by decide) hR blP (piU hI) (va_recv hI.2 hI.1 (ci := 6) (q0 := 1) rfl rfl) hsz rfl hW hdg kk

set_option maxHeartbeats 4000000 in
set_option maxRecDepth 100000 in
theorem mX6_places (l : Launch) {D : va_G} {K : Nat → ClassId} {b : Nat → Nat} {w n lap : Nat} {op mu ba la en : Nat → Nat} {pr : Nat → Option Nat} {fr : Bool} {co : Nat → Nat → Nat} {cw cj : Nat → Int64} {cl : Nat} {rv : Int64} {rc : Nat} {pj : Nat → Nat → Nat} {pw ch : Nat → Nat} {pl lc : Nat} {tl : Nat → Nat} (hG : GOK w n lap op mu ba la en pr) : Met l yX6_places (TWd yX6_places cX6_places 1 (some .int)) (rmk 1) (va_Pc [.ref (b 1)] (fun U => PI D K (cW K b w n lap op mu ba la en pr fr co cw cj cl rv rc pj pw ch pl lc tl) U U.heap)) (QcRead (nI (2 ^ w - 2))) 0 0 (fun _ => False) := by
  refine mt_of (by decide +kernel) (Nat.le_of_ble_eq_true rfl) ?_
  intro p e s m below meth c S hr hlk hI ls hl
  have S : CallFix p m c cX6_places 1 s ([.ref (b 1)] : List Value).toArray lw_tb RX6 := S
  have hl : lv_has ls 1 [(0, .ref (b 1))] := hl
  obtain ⟨gw1, gw2, gn, gl1, gl2, gop, gmu, gba, gla, gen, gpr, gop2, gmu2, gba2, gla2, gme, gbe, gle, gee⟩ := id hG
  have sw : 1 <<< w = 2 ^ w := Nat.one_shiftLeft w
  have pw : 2 ^ w ≤ 2 ^ 10 := Nat.pow_le_pow_right (by decide) gw2
  have pw3 : 2 ^ 2 ≤ 2 ^ w := Nat.pow_le_pow_right (by decide) gw1
  have pw0 : 2 ^ w ≤ 1024 := pw
  have pw4 : 4 ≤ 2 ^ w := pw3
  refine lv_aload_n S.1 S.2.1 dX6_places_0 rfl (lv_at hl 0 rfl) ?_
  refine kX6_cells S hI hG tw_308 (rok (by decide)) hl.1 (Nat.le_of_ble_eq_true rfl) dX6_places_1 ?_
  refine lv_bipush (v := (-2)) S.1 S.2.1 dX6_places_4 (by decide) ?_
  refine lv_iand S.1 S.2.1 dX6_places_6 ?_
  refine ly_top (z := (nI (2 ^ w - 2))) (pl_and gw1 gw2) ?_
  exact rt_i S hr hlk rfl dX6_places_7
theorem kX6_places {p : Program} {l : Launch} {e : Env} {R : Room} {s : State} {m : MethodId} {args : Array Value} {below : List Frame} {meth : Method} {c : Code} {H : Heap} {locs : List Loc} {cells slots : Nat} {Q : State → Prop} {cc : ByteArray} {nL index pc : Nat} {own : String} {ls : Array Slot} {rest : List Value} {D : va_G} {K : Nat → ClassId} {b : Nat → Nat} {w n lap : Nat} {op mu ba la en : Nat → Nat} {pr : Nat → Option Nat} {fr : Bool} {co : Nat → Nat → Nat} {cw cj : Nat → Int64} {cl : Nat} {rv : Int64} {rc : Nat} {pj : Nat → Nat → Nat} {pw ch : Nat → Nat} {pl lc : Nat} {tl : Nat → Nat} (S : CallFix p m c cc nL s args lw_tb own) (hI : PI D K (cW K b w n lap op mu ba la en pr fr co cw cj cl rv rc pj pw ch pl lc tl) s H) (hG : GOK w n lap op mu ba la en pr) (hlink : Cond.methodLink own index yX6_places ∈ lw_tb) (hR : RO 1 R cells slots) (hsz : ls.size = nL) (hW : (rest.map fun v => v.category).sum ≤ 8) (hdg : decode cc pc = .ok (.invokevirtual index, 3)) (kk : W p l e R s m args below meth c H locs cells slots Q (F0 m (pc + 3) ls (.int (nI (2 ^ w - 2)) :: rest))) : W p l e R s m args below meth c H locs cells slots Q (F0 m pc ls (.ref (b 1) :: rest)) :=
  kV (As := []) (b := b 1) S (mX6_places l hG) hlink tw_305 tw_306 tw_43 tw_307 (by show _ ∧ _ ∧ _ = some 0; decide +kernel) (by decide) hR blP (piU hI) (va_recv hI.2 hI.1 (ci := 6) (q0 := 1) rfl rfl) hsz rfl hW hdg kk

set_option maxHeartbeats 4000000 in
set_option maxRecDepth 100000 in
theorem mX6_sets (l : Launch) {D : va_G} {K : Nat → ClassId} {b : Nat → Nat} {w n lap : Nat} {op mu ba la en : Nat → Nat} {pr : Nat → Option Nat} {fr : Bool} {co : Nat → Nat → Nat} {cw cj : Nat → Int64} {cl : Nat} {rv : Int64} {rc : Nat} {pj : Nat → Nat → Nat} {pw ch : Nat → Nat} {pl lc : Nat} {tl : Nat → Nat} (hG : GOK w n lap op mu ba la en pr) : Met l yX6_sets (TWd yX6_sets cX6_sets 1 (some .int)) (rmk 1) (va_Pc [.ref (b 1)] (fun U => PI D K (cW K b w n lap op mu ba la en pr fr co cw cj cl rv rc pj pw ch pl lc tl) U U.heap)) (QcRead (nI (2 ^ (w - 1)))) 0 0 (fun _ => False) := by
  refine mt_of (by decide +kernel) (Nat.le_of_ble_eq_true rfl) ?_
  intro p e s m below meth c S hr hlk hI ls hl
  have S : CallFix p m c cX6_sets 1 s ([.ref (b 1)] : List Value).toArray lw_tb RX6 := S
  have hl : lv_has ls 1 [(0, .ref (b 1))] := hl
  obtain ⟨gw1, gw2, gn, gl1, gl2, gop, gmu, gba, gla, gen, gpr, gop2, gmu2, gba2, gla2, gme, gbe, gle, gee⟩ := id hG
  have sw1 : 1 <<< (w - 1) = 2 ^ (w - 1) := Nat.one_shiftLeft _
  have pw1 : 2 ^ (w - 1) ≤ 2 ^ 9 := Nat.pow_le_pow_right (by decide) (by omega)
  have pw2 : 2 ^ (w - 1) ≤ 512 := pw1
  have pw6 : 2 ^ 1 ≤ 2 ^ (w - 1) := Nat.pow_le_pow_right (by decide) (by omega)
  have pw7 : 2 ≤ 2 ^ (w - 1) := pw6
  refine lv_sipush (v := nI 512) S.1 S.2.1 dX6_sets_0 (by decide) ?_
  refine lv_iconst (v := nI 1) S.1 S.2.1 dX6_sets_3 (by decide) ?_
  refine lv_aload_n S.1 S.2.1 dX6_sets_4 rfl (lv_at hl 0 rfl) ?_
  refine g6 S hI 1 rfl 3 (by decide) tw_125 rfl dX6_sets_5 ?_
  refine lv_iconst (v := nI 1) S.1 S.2.1 dX6_sets_8 (by decide) ?_
  refine lv_isub S.1 S.2.1 dX6_sets_9 ?_
  refine ly_top (z := nI (w - 1)) (pk_sub (by omega)) ?_
  refine lv_ishl S.1 S.2.1 dX6_sets_10 ?_
  refine ly_top (z := nI (1 <<< (w - 1))) (nI_shl (by omega) (by rw [sw1]; omega)) ?_
  refine ly_top (z := (nI (2 ^ (w - 1)))) (by rw [sw1]) ?_
  refine ly_min (x := 512) (z := (2 ^ (w - 1))) S tw_420 (rok (by decide)) hl.1 (Nat.le_of_ble_eq_true rfl) (by omega) (by omega) dX6_sets_11 ?_
  exact rt_i S hr hlk (by rw [Nat.min_eq_right (by omega)]) dX6_sets_14
theorem kX6_sets {p : Program} {l : Launch} {e : Env} {R : Room} {s : State} {m : MethodId} {args : Array Value} {below : List Frame} {meth : Method} {c : Code} {H : Heap} {locs : List Loc} {cells slots : Nat} {Q : State → Prop} {cc : ByteArray} {nL index pc : Nat} {own : String} {ls : Array Slot} {rest : List Value} {D : va_G} {K : Nat → ClassId} {b : Nat → Nat} {w n lap : Nat} {op mu ba la en : Nat → Nat} {pr : Nat → Option Nat} {fr : Bool} {co : Nat → Nat → Nat} {cw cj : Nat → Int64} {cl : Nat} {rv : Int64} {rc : Nat} {pj : Nat → Nat → Nat} {pw ch : Nat → Nat} {pl lc : Nat} {tl : Nat → Nat} (S : CallFix p m c cc nL s args lw_tb own) (hI : PI D K (cW K b w n lap op mu ba la en pr fr co cw cj cl rv rc pj pw ch pl lc tl) s H) (hG : GOK w n lap op mu ba la en pr) (hlink : Cond.methodLink own index yX6_sets ∈ lw_tb) (hR : RO 1 R cells slots) (hsz : ls.size = nL) (hW : (rest.map fun v => v.category).sum ≤ 8) (hdg : decode cc pc = .ok (.invokevirtual index, 3)) (kk : W p l e R s m args below meth c H locs cells slots Q (F0 m (pc + 3) ls (.int (nI (2 ^ (w - 1))) :: rest))) : W p l e R s m args below meth c H locs cells slots Q (F0 m pc ls (.ref (b 1) :: rest)) :=
  kV (As := []) (b := b 1) S (mX6_sets l hG) hlink tw_417 tw_418 tw_43 tw_419 (by show _ ∧ _ ∧ _ = some 0; decide +kernel) (by decide) hR blP (piU hI) (va_recv hI.2 hI.1 (ci := 6) (q0 := 1) rfl rfl) hsz rfl hW hdg kk

set_option maxHeartbeats 4000000 in
set_option maxRecDepth 100000 in
theorem mX6_bounds (l : Launch) {D : va_G} {K : Nat → ClassId} {b : Nat → Nat} {w n lap : Nat} {op mu ba la en : Nat → Nat} {pr : Nat → Option Nat} {fr : Bool} {co : Nat → Nat → Nat} {cw cj : Nat → Int64} {cl : Nat} {rv : Int64} {rc : Nat} {pj : Nat → Nat → Nat} {pw ch : Nat → Nat} {pl lc : Nat} {tl : Nat → Nat} {i : Nat} {j : Nat} (hG : GOK w n lap op mu ba la en pr) (hi : i < 9) (hj : j < 2048) : Met l yX6_bounds (TWd yX6_bounds cX6_bounds 3 (some .int)) (rmk 1) (va_Pc [.ref (b 1), .ref (b (19 + i)), .int (nI j)] (fun U => PI D K (cW K b w n lap op mu ba la en pr fr co cw cj cl rv rc pj pw ch pl lc tl) U U.heap)) (QcRead (nI (bnd w (gz op i) j))) 0 0 (fun _ => False) := by
  refine mt_of (by decide +kernel) (Nat.le_of_ble_eq_true rfl) ?_
  intro p e s m below meth c S hr hlk hI ls hl
  have S : CallFix p m c cX6_bounds 3 s ([.ref (b 1), .ref (b (19 + i)), .int (nI j)] : List Value).toArray lw_tb RX6 := S
  have hl : lv_has ls 3 [(0, .ref (b 1)), (1, .ref (b (19 + i))), (2, .int (nI j))] := hl
  obtain ⟨gw1, gw2, gn, gl1, gl2, gop, gmu, gba, gla, gen, gpr, gop2, gmu2, gba2, gla2, gme, gbe, gle, gee⟩ := id hG
  have sw : 1 <<< w = 2 ^ w := Nat.one_shiftLeft w
  have pw : 2 ^ w ≤ 2 ^ 10 := Nat.pow_le_pow_right (by decide) gw2
  have pw3 : 2 ^ 2 ≤ 2 ^ w := Nat.pow_le_pow_right (by decide) gw1
  have pw0 : 2 ^ w ≤ 1024 := pw
  have pw4 : 4 ≤ 2 ^ w := pw3
  have o1 := bes_lt gop i
  refine lv_iload_n S.1 S.2.1 dX6_bounds_0 rfl (lv_at hl 2 rfl) ?_
  refine lv_aload_n S.1 S.2.1 dX6_bounds_1 rfl (lv_at hl 1 rfl) ?_
  refine kX2_besideOpen S hI hG (by first | omega | exact bwc_lt (by omega)) tw_348 (rok (by decide)) hl.1 (Nat.le_of_ble_eq_true rfl) dX6_bounds_2 ?_
  have b1 : gz op i ||| gz op i <<< 1 < 2048 := bes_lt gop i
  refine lv_ior S.1 S.2.1 dX6_bounds_5 ?_
  refine ly_top (z := nI (j ||| (gz op i ||| gz op i <<< 1))) (nI_or (by omega) (by omega)) ?_
  refine lv_iconst (v := nI 1) S.1 S.2.1 dX6_bounds_6 (by decide) ?_
  refine lv_aload_n S.1 S.2.1 dX6_bounds_7 rfl (lv_at hl 0 rfl) ?_
  refine g6 S hI 1 rfl 3 (by decide) tw_125 rfl dX6_bounds_8 ?_
  refine lv_ishl S.1 S.2.1 dX6_bounds_11 ?_
  refine ly_top (z := nI (1 <<< w)) (nI_shl (by omega) (by rw [sw]; omega)) ?_
  refine ly_top (z := (nI (2 ^ w))) (by rw [sw]) ?_
  refine lv_ior S.1 S.2.1 dX6_bounds_12 ?_
  refine ly_top (z := nI ((j ||| (gz op i ||| gz op i <<< 1)) ||| (2 ^ w))) (nI_or (Nat.or_lt_two_pow (n := 31) (by omega) (by omega)) (by omega)) ?_
  exact rt_i S hr hlk rfl dX6_bounds_13
theorem kX6_bounds {p : Program} {l : Launch} {e : Env} {R : Room} {s : State} {m : MethodId} {args : Array Value} {below : List Frame} {meth : Method} {c : Code} {H : Heap} {locs : List Loc} {cells slots : Nat} {Q : State → Prop} {cc : ByteArray} {nL index pc : Nat} {own : String} {ls : Array Slot} {rest : List Value} {D : va_G} {K : Nat → ClassId} {b : Nat → Nat} {w n lap : Nat} {op mu ba la en : Nat → Nat} {pr : Nat → Option Nat} {fr : Bool} {co : Nat → Nat → Nat} {cw cj : Nat → Int64} {cl : Nat} {rv : Int64} {rc : Nat} {pj : Nat → Nat → Nat} {pw ch : Nat → Nat} {pl lc : Nat} {tl : Nat → Nat} {i : Nat} {j : Nat} (S : CallFix p m c cc nL s args lw_tb own) (hI : PI D K (cW K b w n lap op mu ba la en pr fr co cw cj cl rv rc pj pw ch pl lc tl) s H) (hG : GOK w n lap op mu ba la en pr) (hi : i < 9) (hj : j < 2048) (hlink : Cond.methodLink own index yX6_bounds ∈ lw_tb) (hR : RO 1 R cells slots) (hsz : ls.size = nL) (hW : (rest.map fun v => v.category).sum ≤ 8) (hdg : decode cc pc = .ok (.invokevirtual index, 3)) (kk : W p l e R s m args below meth c H locs cells slots Q (F0 m (pc + 3) ls (.int (nI (bnd w (gz op i) j)) :: rest))) : W p l e R s m args below meth c H locs cells slots Q (F0 m pc ls (.int (nI j) :: .ref (b (19 + i)) :: .ref (b 1) :: rest)) :=
  kV (As := [.ref (b (19 + i)), .int (nI j)]) (b := b 1) S (mX6_bounds l hG hi hj) hlink tw_346 tw_2 tw_43 tw_347 (by show _ ∧ _ ∧ _ = some 2; decide +kernel) (by decide) hR blP (piU hI) (va_recv hI.2 hI.1 (ci := 6) (q0 := 1) rfl rfl) hsz rfl hW hdg kk
