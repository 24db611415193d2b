set_option maxHeartbeats 4000000 in
set_option maxRecDepth 100000 in
theorem mX8_has (l : Launch) {z : Nat} {k : Nat} (hz : z < 2 ^ 31) (hk : k < 32) : Met l yX8_has (TWd yX8_has cX8_has 2 (some .boolean)) (rmk 0) (va_Pc [.int (nI z), .int (nI k)] (fun _ => True)) (QcRead (bI (Nat.testBit z k))) 0 0 (fun _ => False) := by
  refine mt_of (by decide +kernel) (Nat.le_of_ble_eq_true rfl) ?_
  intro p e s m below meth c S hr hlk hI ls hl
  have S : CallFix p m c cX8_has 2 s ([.int (nI z), .int (nI k)] : List Value).toArray lw_tb RX8 := S
  have hl : lv_has ls 2 [(0, .int (nI z)), (1, .int (nI k))] := hl
  refine lv_iload_n S.1 S.2.1 dX8_has_0 rfl (lv_at hl 0 rfl) ?_
  refine lv_iload_n S.1 S.2.1 dX8_has_1 rfl (lv_at hl 1 rfl) ?_
  refine lv_ishr S.1 S.2.1 dX8_has_2 ?_
  refine ly_top (z := nI (z >>> k)) (nI_shr (by omega) (by omega)) ?_
  refine lv_iconst (v := nI 1) S.1 S.2.1 dX8_has_3 (by decide) ?_
  refine lv_iand S.1 S.2.1 dX8_has_4 ?_
  refine ly_top (z := nI ((z >>> k) &&& 1)) (nI_and (Nat.lt_of_le_of_lt (Nat.shiftRight_le z k) hz) (by omega)) ?_
  refine ly_top (z := (nI ((z >>> k) % 2))) (by rw [and1]) ?_
  refine lv_iconst (v := nI 1) S.1 S.2.1 dX8_has_5 (by decide) ?_
  have q6 : (z >>> k) % 2 < 2 := Nat.mod_lt _ (by decide)
  refine ly_cmne (tgt := 13) S (nI_e2 (by omega) (by omega)) (nI_e1 (by omega) (by omega)) dX8_has_6 (by decide) (fun h1 => ?_) (fun h1 => ?_)
  · skip
    refine lv_iconst (v := nI 0) S.1 S.2.1 dX8_has_13 (by decide) ?_
    exact rt_z0 S hr hlk (tb0 h1) dX8_has_14
  · skip
    refine lv_iconst (v := nI 1) S.1 S.2.1 dX8_has_9 (by decide) ?_
    refine lv_goto (tgt := 14) S.1 S.2.1 dX8_has_10 (by decide) ?_
    exact rt_z1 S hr hlk (tb1 h1) dX8_has_14
theorem kX8_has {p : Program} {l : Launch} {e : Env} {R : Room} {s : State} {m : MethodId} {args : Array Value} {below : List Frame} {meth : Method} {c : Code} {H : Heap} {locs : List Loc} {cells slots : Nat} {Q : State → Prop} {cc : ByteArray} {nL index pc : Nat} {own : String} {ls : Array Slot} {rest : List Value} {z : Nat} {k : Nat} (S : CallFix p m c cc nL s args lw_tb own) (hz : z < 2 ^ 31) (hk : k < 32) (hlink : Cond.methodLink own index yX8_has ∈ lw_tb) (hR : RO 0 R cells slots) (hsz : ls.size = nL) (hW : (rest.map fun v => v.category).sum ≤ 8) (hdg : decode cc pc = .ok (.invokestatic index, 3)) (kk : W p l e R s m args below meth c H locs cells slots Q (F0 m (pc + 3) ls (.int (bI (Nat.testBit z k)) :: rest))) : W p l e R s m args below meth c H locs cells slots Q (F0 m pc ls (.int (nI k) :: .int (nI z) :: rest)) :=
  kS (As := [.int (nI z), .int (nI k)]) S (mX8_has l hz hk) hlink tw_706 tw_50 tw_707 (by show _ ∧ _ ∧ _ = some 2; decide +kernel) (by decide) hR blT (fun _ _ _ => trivial) hsz rfl hW hdg kk

set_option maxHeartbeats 4000000 in
set_option maxRecDepth 100000 in
theorem mX8_within (l : Launch) {v : Int32} {z0 : Int32} {z1 : Int32} : Met l yX8_within (TWd yX8_within cX8_within 3 (some .boolean)) (rmk 0) (va_Pc [.int v, .int z0, .int z1] (fun _ => True)) (QcRead (bI (wiI v z0 z1))) 0 0 (fun _ => False) := by
  refine mt_of (by decide +kernel) (Nat.le_of_ble_eq_true rfl) ?_
  intro p e s m below meth c S hr hlk hI ls hl
  have S : CallFix p m c cX8_within 3 s ([.int v, .int z0, .int z1] : List Value).toArray lw_tb RX8 := S
  have hl : lv_has ls 3 [(0, .int v), (1, .int z0), (2, .int z1)] := hl
  refine lv_iload_n S.1 S.2.1 dX8_within_0 rfl (lv_at hl 0 rfl) ?_
  refine lv_iload_n S.1 S.2.1 dX8_within_1 rfl (lv_at hl 1 rfl) ?_
  refine ly_cmlt (tgt := 14) S (fun q => q) (fun q => q) dX8_within_2 (by decide) (fun h1 => ?_) (fun h1 => ?_)
  · skip
    refine lv_iconst (v := nI 0) S.1 S.2.1 dX8_within_14 (by decide) ?_
    exact rt_z0 S hr hlk (wiI_l h1) dX8_within_15
  · skip
    refine lv_iload_n S.1 S.2.1 dX8_within_5 rfl (lv_at hl 0 rfl) ?_
    refine lv_iload_n S.1 S.2.1 dX8_within_6 rfl (lv_at hl 2 rfl) ?_
    refine ly_cmgt (tgt := 14) S (fun q => q) (fun q => q) dX8_within_7 (by decide) (fun h2 => ?_) (fun h2 => ?_)
    · skip
      refine lv_iconst (v := nI 0) S.1 S.2.1 dX8_within_14 (by decide) ?_
      exact rt_z0 S hr hlk (wiI_r h2) dX8_within_15
    · skip
      refine lv_iconst (v := nI 1) S.1 S.2.1 dX8_within_10 (by decide) ?_
      refine lv_goto (tgt := 15) S.1 S.2.1 dX8_within_11 (by decide) ?_
      exact rt_z1 S hr hlk (wiI_t h1 h2) dX8_within_15
theorem kX8_within {p : Program} {l : Launch} {e : Env} {R : Room} {s : State} {m : MethodId} {args : Array Value} {below : List Frame} {meth : Method} {c : Code} {H : Heap} {locs : List Loc} {cells slots : Nat} {Q : State → Prop} {cc : ByteArray} {nL index pc : Nat} {own : String} {ls : Array Slot} {rest : List Value} {v : Int32} {z0 : Int32} {z1 : Int32} (S : CallFix p m c cc nL s args lw_tb own) (hlink : Cond.methodLink own index yX8_within ∈ lw_tb) (hR : RO 0 R cells slots) (hsz : ls.size = nL) (hW : (rest.map fun v => v.category).sum ≤ 8) (hdg : decode cc pc = .ok (.invokestatic index, 3)) (kk : W p l e R s m args below meth c H locs cells slots Q (F0 m (pc + 3) ls (.int (bI (wiI v z0 z1)) :: rest))) : W p l e R s m args below meth c H locs cells slots Q (F0 m pc ls (.int z1 :: .int z0 :: .int v :: rest)) :=
  kS (As := [.int v, .int z0, .int z1]) S (mX8_within l ) hlink tw_659 tw_50 tw_660 (by show _ ∧ _ ∧ _ = some 3; decide +kernel) (by decide) hR blT (fun _ _ _ => trivial) hsz rfl hW hdg kk

set_option maxHeartbeats 4000000 in
set_option maxRecDepth 100000 in
theorem mX8_sizeOf (l : Launch) {z : Nat} (hz : z < 2 ^ 31) : Met l yX8_sizeOf (TWd yX8_sizeOf cX8_sizeOf 3 (some .int)) (rmk 0) (va_Pc [.int (nI z)] (fun _ => True)) (QcRead (nI (popG 31 z))) 0 0 (fun _ => False) := by
  refine mt_of (by decide +kernel) (Nat.le_of_ble_eq_true rfl) ?_
  intro p e s m below meth c S hr hlk hI ls hl
  have S : CallFix p m c cX8_sizeOf 3 s ([.int (nI z)] : List Value).toArray lw_tb RX8 := S
  have hl : lv_has ls 3 [(0, .int (nI z))] := hl
  refine lv_iconst (v := nI 0) S.1 S.2.1 dX8_sizeOf_0 (by decide) ?_
  refine lv_istore_n (lv' := [(1, .int (nI 0)), (0, .int (nI z))]) S.1 S.2.1 dX8_sizeOf_1 rfl hl (by decide) rfl (fun ls hl => ?_)
  refine lv_iload_n S.1 S.2.1 dX8_sizeOf_2 rfl (lv_at hl 1 rfl) ?_
  refine lv_istore_n (lv' := [(2, .int (nI z)), (1, .int (nI 0)), (0, .int (nI z))]) S.1 S.2.1 dX8_sizeOf_3 rfl hl (by decide) rfl (fun ls hl => ?_)
  have L4 : ∀ (f4 : Nat) (k : Nat) (v : Nat) (g : Nat), (k + popG g v = popG 31 z) → (v < 2 ^ g) → (g ≤ 31) → v < f4 → ∀ (ls : Array Slot), lv_has ls 3 [(0, .int (nI z)), (1, .int (nI k)), (2, .int (nI v))] → W p l e (rmk 0) s m ([.int (nI z)] : List Value).toArray below meth c s.heap [] 0 0 (MQ below (QcRead (nI (popG 31 z))) ([.int (nI z)] : List Value).toArray s 0 0 (fun _ => False)) (F0 m 4 ls []) := by
    intro f4
    induction f4 with
    | zero =>
      intro k v g i1 i2 i3 hm
      exact absurd hm (Nat.not_lt_zero _)
    | succ f4 ih4 =>
      intro k v g i1 i2 i3 hm4 ls hl
      have b2 : v < 2 ^ 31 := Nat.lt_of_lt_of_le i2 (Nat.pow_le_pow_right (by decide) i3)
      refine lv_iload_n S.1 S.2.1 dX8_sizeOf_4 rfl (lv_at hl 2 rfl) ?_
      refine ly_ifle (tgt := 21) S (fun q => nI_p2 (by omega) (Int32.not_lt.mpr q)) (fun q => nI_p1 (by omega) (Int32.not_le.mp q)) dX8_sizeOf_5 (by decide) (fun h1 => ?_) (fun h1 => ?_)
      · skip
        refine lv_iload_n S.1 S.2.1 dX8_sizeOf_21 rfl (lv_at hl 1 rfl) ?_
        exact rt_i S hr hlk (by rw [← i1, h1, popG_0]; rfl) dX8_sizeOf_22
      · skip
        have g1 := popG_g h1 i2
        refine lv_iload_n S.1 S.2.1 dX8_sizeOf_8 rfl (lv_at hl 1 rfl) ?_
        refine lv_iload_n S.1 S.2.1 dX8_sizeOf_9 rfl (lv_at hl 2 rfl) ?_
        refine lv_iconst (v := nI 1) S.1 S.2.1 dX8_sizeOf_10 (by decide) ?_
        refine lv_iand S.1 S.2.1 dX8_sizeOf_11 ?_
        refine ly_top (z := nI (v &&& 1)) (nI_and (by omega) (by omega)) ?_
        refine ly_top (z := (nI (v % 2))) (by rw [and1]) ?_
        refine lv_iadd S.1 S.2.1 dX8_sizeOf_12 ?_
        refine ly_top (z := nI (k + (v % 2))) (nI_add _ _) ?_
        refine lv_istore_n (lv' := [(1, .int (nI (k + (v % 2)))), (0, .int (nI z)), (2, .int (nI v))]) S.1 S.2.1 dX8_sizeOf_13 rfl hl (by decide) rfl (fun ls hl => ?_)
        refine lv_iload_n S.1 S.2.1 dX8_sizeOf_14 rfl (lv_at hl 2 rfl) ?_
        refine lv_iconst (v := nI 1) S.1 S.2.1 dX8_sizeOf_15 (by decide) ?_
        refine lv_ishr S.1 S.2.1 dX8_sizeOf_16 ?_
        refine ly_top (z := nI (v >>> 1)) (nI_shr (by omega) (by omega)) ?_
        refine ly_top (z := (nI (v / 2))) (by rw [Nat.shiftRight_eq_div_pow]) ?_
        refine lv_istore_n (lv' := [(2, .int (nI (v / 2))), (1, .int (nI (k + (v % 2)))), (0, .int (nI z))]) S.1 S.2.1 dX8_sizeOf_17 rfl hl (by decide) rfl (fun ls hl => ?_)
        refine lv_goto (tgt := 4) S.1 S.2.1 dX8_sizeOf_18 (by decide) ?_
        exact ih4 (k + (v % 2)) (v / 2) (g - 1) (popG_s g1 i1) (popG_h g1 i2) (by omega) (by omega) _ (lv_sub hl [2, 1, 0] rfl)
  exact L4 _ 0 z 31 (Nat.zero_add _) hz (by omega) (Nat.lt_succ_self _) _ (lv_sub hl [2, 1, 0] rfl)
theorem kX8_sizeOf {p : Program} {l : Launch} {e : Env} {R : Room} {s : State} {m : MethodId} {args : Array Value} {below : List Frame} {meth : Method} {c : Code} {H : Heap} {locs : List Loc} {cells slots : Nat} {Q : State → Prop} {cc : ByteArray} {nL index pc : Nat} {own : String} {ls : Array Slot} {rest : List Value} {z : Nat} (S : CallFix p m c cc nL s args lw_tb own) (hz : z < 2 ^ 31) (hlink : Cond.methodLink own index yX8_sizeOf ∈ lw_tb) (hR : RO 0 R cells slots) (hsz : ls.size = nL) (hW : (rest.map fun v => v.category).sum ≤ 8) (hdg : decode cc pc = .ok (.invokestatic index, 3)) (kk : W p l e R s m args below meth c H locs cells slots Q (F0 m (pc + 3) ls (.int (nI (popG 31 z)) :: rest))) : W p l e R s m args below meth c H locs cells slots Q (F0 m pc ls (.int (nI z) :: rest)) :=
  kS (As := [.int (nI z)]) S (mX8_sizeOf l hz) hlink tw_857 tw_50 tw_858 (by show _ ∧ _ ∧ _ = some 1; decide +kernel) (by decide) hR blT (fun _ _ _ => trivial) hsz rfl hW hdg kk

set_option maxHeartbeats 4000000 in
set_option maxRecDepth 100000 in
theorem mX8_around (l : Launch) {j : Nat} {z : Nat} (hj : j < 1024) (hz : z ≤ 3) (hz1 : 1 ≤ z) : Met l yX8_around (TWd yX8_around cX8_around 4 (some .int)) (rmk 0) (va_Pc [.int (nI j), .int (nI z)] (fun _ => True)) (QcRead (nI (arG j z))) 0 0 (fun _ => False) := by
  refine mt_of (by decide +kernel) (Nat.le_of_ble_eq_true rfl) ?_
  intro p e s m below meth c S hr hlk hI ls hl
  have S : CallFix p m c cX8_around 4 s ([.int (nI j), .int (nI z)] : List Value).toArray lw_tb RX8 := S
  have hl : lv_has ls 4 [(0, .int (nI j)), (1, .int (nI z))] := hl
  refine lv_iload_n S.1 S.2.1 dX8_around_0 rfl (lv_at hl 0 rfl) ?_
  refine ly_top (z := (nI (arG j 1))) rfl ?_
  refine lv_istore_n (lv' := [(2, .int (nI (arG j 1))), (0, .int (nI j)), (1, .int (nI z))]) S.1 S.2.1 dX8_around_1 rfl hl (by decide) rfl (fun ls hl => ?_)
  refine lv_iconst (v := nI 1) S.1 S.2.1 dX8_around_2 (by decide) ?_
  refine lv_istore_n (lv' := [(3, .int (nI 1)), (2, .int (nI (arG j 1))), (0, .int (nI j)), (1, .int (nI z))]) S.1 S.2.1 dX8_around_3 rfl hl (by decide) rfl (fun ls hl => ?_)
  have L4 : ∀ (f4 : Nat) (k : Nat), (1 ≤ k) → (k ≤ z) → z - k < f4 → ∀ (ls : Array Slot), lv_has ls 4 [(0, .int (nI j)), (1, .int (nI z)), (2, .int (nI (arG j k))), (3, .int (nI k))] → W p l e (rmk 0) s m ([.int (nI j), .int (nI z)] : List Value).toArray below meth c s.heap [] 0 0 (MQ below (QcRead (nI (arG j z))) ([.int (nI j), .int (nI z)] : List Value).toArray s 0 0 (fun _ => False)) (F0 m 4 ls []) := by
    intro f4
    induction f4 with
    | zero =>
      intro k i1 i2 hm
      exact absurd hm (Nat.not_lt_zero _)
    | succ f4 ih4 =>
      intro k i1 i2 hm4 ls hl
      have b1 := arG_lt hj k (by omega)
      refine lv_iload_n S.1 S.2.1 dX8_around_4 rfl (lv_at hl 3 rfl) ?_
      refine lv_iload_n S.1 S.2.1 dX8_around_5 rfl (lv_at hl 1 rfl) ?_
      refine ly_cmge (tgt := 25) S (nI_le1 (by omega) (by omega)) (nI_le2 (by omega) (by omega)) dX8_around_6 (by decide) (fun h1 => ?_) (fun h1 => ?_)
      · skip
        refine lv_iload_n S.1 S.2.1 dX8_around_25 rfl (lv_at hl 2 rfl) ?_
        exact rt_i S hr hlk (by rw [show k = z by omega]) dX8_around_26
      · skip
        refine lv_iload_n S.1 S.2.1 dX8_around_9 rfl (lv_at hl 2 rfl) ?_
        refine lv_iload_n S.1 S.2.1 dX8_around_10 rfl (lv_at hl 0 rfl) ?_
        refine lv_iload_n S.1 S.2.1 dX8_around_11 rfl (lv_at hl 3 rfl) ?_
        refine lv_ishl S.1 S.2.1 dX8_around_12 ?_
        refine ly_top (z := nI (j <<< k)) (nI_shl (by omega) (by have := Nat.pow_le_pow_right (show 0 < 2 by decide) (show k ≤ 2 by omega); rw [Nat.shiftLeft_eq]; have := Nat.mul_le_mul (show j ≤ 1023 by omega) this; omega)) ?_
        refine lv_iload_n S.1 S.2.1 dX8_around_13 rfl (lv_at hl 0 rfl) ?_
        refine lv_iload_n S.1 S.2.1 dX8_around_14 rfl (lv_at hl 3 rfl) ?_
        refine lv_ishr S.1 S.2.1 dX8_around_15 ?_
        refine ly_top (z := nI (j >>> k)) (nI_shr (by omega) (by omega)) ?_
        have b2 : j <<< k < 4096 := by have := Nat.pow_le_pow_right (show 0 < 2 by decide) (show k ≤ 2 by omega); rw [Nat.shiftLeft_eq]; have := Nat.mul_le_mul (show j ≤ 1023 by omega) this; omega
        have b3 : j >>> k < 4096 := Nat.lt_of_le_of_lt (Nat.shiftRight_le j k) (by omega)
        refine lv_ior S.1 S.2.1 dX8_around_16 ?_
        refine ly_top (z := nI ((j <<< k) ||| (j >>> k))) (nI_or (by omega) (by omega)) ?_
        have b4 : j <<< k ||| j >>> k < 2 ^ 12 := Nat.or_lt_two_pow b2 b3
        refine lv_ior S.1 S.2.1 dX8_around_17 ?_
        refine ly_top (z := nI ((arG j k) ||| ((j <<< k) ||| (j >>> k)))) (nI_or (by omega) (by omega)) ?_
        refine ly_top (z := (nI (arG j (k + 1)))) (by simp only [arG]; rw [if_neg (by omega)]) ?_
        refine lv_istore_n (lv' := [(2, .int (nI (arG j (k + 1)))), (0, .int (nI j)), (1, .int (nI z)), (3, .int (nI k))]) S.1 S.2.1 dX8_around_18 rfl hl (by decide) rfl (fun ls hl => ?_)
        refine lv_iinc (v := nI (k + 1)) (lv' := [(3, .int (nI (k + 1))), (2, .int (nI (arG j (k + 1)))), (0, .int (nI j)), (1, .int (nI z))]) S.1 S.2.1 dX8_around_19 hl (k := 3) rfl (nJ_in _ _) (by decide) rfl (fun ls hl => ?_)
        refine lv_goto (tgt := 4) S.1 S.2.1 dX8_around_22 (by decide) ?_
        exact ih4 (k + 1) (by omega) (by omega) (by omega) _ (lv_sub hl [2, 3, 1, 0] rfl)
  exact L4 _ 1 (by omega) (by omega) (Nat.lt_succ_self _) _ (lv_sub hl [2, 3, 1, 0] rfl)
theorem kX8_around {p : Program} {l : Launch} {e : Env} {R : Room} {s : State} {m : MethodId} {args : Array Value} {below : List Frame} {meth : Method} {c : Code} {H : Heap} {locs : List Loc} {cells slots : Nat} {Q : State → Prop} {cc : ByteArray} {nL index pc : Nat} {own : String} {ls : Array Slot} {rest : List Value} {j : Nat} {z : Nat} (S : CallFix p m c cc nL s args lw_tb own) (hj : j < 1024) (hz : z ≤ 3) (hz1 : 1 ≤ z) (hlink : Cond.methodLink own index yX8_around ∈ lw_tb) (hR : RO 0 R cells slots) (hsz : ls.size = nL) (hW : (rest.map fun v => v.category).sum ≤ 8) (hdg : decode cc pc = .ok (.invokestatic index, 3)) (kk : W p l e R s m args below meth c H locs cells slots Q (F0 m (pc + 3) ls (.int (nI (arG j z)) :: rest))) : W p l e R s m args below meth c H locs cells slots Q (F0 m pc ls (.int (nI z) :: .int (nI j) :: rest)) :=
  kS (As := [.int (nI j), .int (nI z)]) S (mX8_around l hj hz hz1) hlink tw_766 tw_50 tw_767 (by show _ ∧ _ ∧ _ = some 2; decide +kernel) (by decide) hR blT (fun _ _ _ => trivial) hsz rfl hW hdg kk

set_option maxHeartbeats 4000000 in
set_option maxRecDepth 100000 in
theorem mX8_isCourse (l : Launch) {D : va_G} {K : Nat → ClassId} {a : Nat → Nat} {w n lap : Nat} {op mu ba la en : Nat → Nat} {pr : Nat → Option Nat} {sc : MSc} {v : Int32} (hG : GOK w n lap op mu ba la en pr) : Met l yX8_isCourse (TWd yX8_isCourse cX8_isCourse 2 (some .boolean)) (rmk 1) (va_Pc [.ref (a 0), .int v] (fun U => PI D K (mW K a w n lap op mu ba la en pr sc) U U.heap)) (QcRead (bI (wiI v 0 (nI n - 1)))) 0 0 (fun _ => False) := by
  refine mt_of (by decide +kernel) (Nat.le_of_ble_eq_true rfl) ?_
  intro p e s m below meth c S hr hlk hI ls hl
  have S : CallFix p m c cX8_isCourse 2 s ([.ref (a 0), .int v] : List Value).toArray lw_tb RX8 := S
  have hl : lv_has ls 2 [(0, .ref (a 0)), (1, .int v)] := hl
  obtain ⟨gw1, gw2, gn, gl1, gl2, gop, gmu, gba, gla, gen, gpr, gop2, gmu2, gba2, gla2, gme, gbe, gle, gee⟩ := id hG
  refine lv_iload_n S.1 S.2.1 dX8_isCourse_0 rfl (lv_at hl 1 rfl) ?_
  refine lv_iconst (v := nI 0) S.1 S.2.1 dX8_isCourse_1 (by decide) ?_
  refine lv_aload_n S.1 S.2.1 dX8_isCourse_2 rfl (lv_at hl 0 rfl) ?_
  refine g8 S hI 0 rfl 1 (by decide) tw_608 rfl dX8_isCourse_3 ?_
  refine lv_iconst (v := nI 1) S.1 S.2.1 dX8_isCourse_6 (by decide) ?_
  refine lv_isub S.1 S.2.1 dX8_isCourse_7 ?_
  refine kX8_within S  tw_658 (rok (by decide)) hl.1 (Nat.le_of_ble_eq_true rfl) dX8_isCourse_8 ?_
  exact rt_z S hr hlk rfl dX8_isCourse_11
theorem kX8_isCourse {p : Program} {l : Launch} {e : Env} {R : Room} {s : State} {m : MethodId} {args : Array Value} {below : List Frame} {meth : Method} {c : Code} {H : Heap} {locs : List Loc} {cells slots : Nat} {Q : State → Prop} {cc : ByteArray} {nL index pc : Nat} {own : String} {ls : Array Slot} {rest : List Value} {D : va_G} {K : Nat → ClassId} {a : Nat → Nat} {w n lap : Nat} {op mu ba la en : Nat → Nat} {pr : Nat → Option Nat} {sc : MSc} {v : Int32} (S : CallFix p m c cc nL s args lw_tb own) (hI : PI D K (mW K a w n lap op mu ba la en pr sc) s H) (hG : GOK w n lap op mu ba la en pr) (hlink : Cond.methodLink own index yX8_isCourse ∈ lw_tb) (hR : RO 1 R cells slots) (hsz : ls.size = nL) (hW : (rest.map fun v => v.category).sum ≤ 8) (hdg : decode cc pc = .ok (.invokevirtual index, 3)) (kk : W p l e R s m args below meth c H locs cells slots Q (F0 m (pc + 3) ls (.int (bI (wiI v 0 (nI n - 1))) :: rest))) : W p l e R s m args below meth c H locs cells slots Q (F0 m pc ls (.int v :: .ref (a 0) :: rest)) :=
  kV (As := [.int v]) (b := a 0) S (mX8_isCourse l hG) hlink tw_675 tw_16 tw_50 tw_676 (by show _ ∧ _ ∧ _ = some 1; decide +kernel) (by decide) hR blP (piU hI) (va_recv hI.2 hI.1 (ci := 8) (q0 := 0) rfl rfl) hsz rfl hW hdg kk

set_option maxHeartbeats 4000000 in
set_option maxRecDepth 100000 in
theorem mX8_begins (l : Launch) {D : va_G} {K : Nat → ClassId} {a : Nat → Nat} {w n lap : Nat} {op mu ba la en : Nat → Nat} {pr : Nat → Option Nat} {sc : MSc} {ci : Nat} {j : Nat} {x : Nat} (hG : GOK w n lap op mu ba la en pr) (hci : ci < 8) (hj : j < 1024) (hx : x < 10) : Met l yX8_begins (TWd yX8_begins cX8_begins 4 (some .boolean)) (rmk 1) (va_Pc [.ref (a 0), .int (nI ci), .int (nI j), .int (nI x)] (fun U => PI D K (mW K a w n lap op mu ba la en pr sc) U U.heap)) (QcRead (bI (beg (op ci) j x))) 0 0 (fun _ => False) := by
  refine mt_of (by decide +kernel) (Nat.le_of_ble_eq_true rfl) ?_
  intro p e s m below meth c S hr hlk hI ls hl
  have S : CallFix p m c cX8_begins 4 s ([.ref (a 0), .int (nI ci), .int (nI j), .int (nI x)] : List Value).toArray lw_tb RX8 := S
  have hl : lv_has ls 4 [(0, .ref (a 0)), (1, .int (nI ci)), (2, .int (nI j)), (3, .int (nI x))] := hl
  obtain ⟨gw1, gw2, gn, gl1, gl2, gop, gmu, gba, gla, gen, gpr, gop2, gmu2, gba2, gla2, gme, gbe, gle, gee⟩ := id hG
  have o1 := gop ci
  refine lv_aload_n S.1 S.2.1 dX8_begins_0 rfl (lv_at hl 0 rfl) ?_
  refine g8 S hI 0 rfl 2 (by decide) tw_609 rfl dX8_begins_1 ?_
  refine lv_iload_n S.1 S.2.1 dX8_begins_4 rfl (lv_at hl 1 rfl) ?_
  refine ly_iald (v := (nI (op ci))) S hI 1 rfl (by omega) (by decide) rfl dX8_begins_5 ?_
  refine lv_iload_n S.1 S.2.1 dX8_begins_6 rfl (lv_at hl 3 rfl) ?_
  refine kX8_has S (by omega) (by omega) tw_705 (rok (by decide)) hl.1 (Nat.le_of_ble_eq_true rfl) dX8_begins_7 ?_
  refine ly_ifne (tgt := 44) S bI_e2 bI_e1 dX8_begins_10 (by decide) (fun h1 => ?_) (fun h1 => ?_)
  · skip
    refine lv_iconst (v := nI 0) S.1 S.2.1 dX8_begins_44 (by decide) ?_
    exact rt_z0 S hr hlk (by simp [beg, h1]) dX8_begins_45
  · skip
    refine lv_iload_n S.1 S.2.1 dX8_begins_13 rfl (lv_at hl 3 rfl) ?_
    refine ly_ifeq (tgt := 40) S (nI_z1 (by omega)) (nI_z2 (by omega)) dX8_begins_14 (by decide) (fun h2 => ?_) (fun h2 => ?_)
    · skip
      refine lv_iconst (v := nI 1) S.1 S.2.1 dX8_begins_40 (by decide) ?_
      refine lv_goto (tgt := 45) S.1 S.2.1 dX8_begins_41 (by decide) ?_
      exact rt_z1 S hr hlk (beg_0 h1 h2) dX8_begins_45
    · skip
      refine lv_aload_n S.1 S.2.1 dX8_begins_17 rfl (lv_at hl 0 rfl) ?_
      refine g8 S hI 0 rfl 2 (by decide) tw_609 rfl dX8_begins_18 ?_
      refine lv_iload_n S.1 S.2.1 dX8_begins_21 rfl (lv_at hl 1 rfl) ?_
      refine ly_iald (v := (nI (op ci))) S hI 1 rfl (by omega) (by decide) rfl dX8_begins_22 ?_
      refine lv_iload_n S.1 S.2.1 dX8_begins_23 rfl (lv_at hl 3 rfl) ?_
      refine lv_iconst (v := nI 1) S.1 S.2.1 dX8_begins_24 (by decide) ?_
      refine lv_isub S.1 S.2.1 dX8_begins_25 ?_
      refine ly_top (z := nI (x - 1)) (pk_sub (by omega)) ?_
      refine kX8_has S (by omega) (by omega) tw_705 (rok (by decide)) hl.1 (Nat.le_of_ble_eq_true rfl) dX8_begins_26 ?_
      refine ly_ifne (tgt := 40) S bI_e2 bI_e1 dX8_begins_29 (by decide) (fun h3 => ?_) (fun h3 => ?_)
      · skip
        refine lv_iconst (v := nI 1) S.1 S.2.1 dX8_begins_40 (by decide) ?_
        refine lv_goto (tgt := 45) S.1 S.2.1 dX8_begins_41 (by decide) ?_
        exact rt_z1 S hr hlk (by simp [beg, h1, h2, h3]) dX8_begins_45
      · skip
        refine lv_iload_n S.1 S.2.1 dX8_begins_32 rfl (lv_at hl 2 rfl) ?_
        refine lv_iload_n S.1 S.2.1 dX8_begins_33 rfl (lv_at hl 3 rfl) ?_
        refine kX8_has S (by omega) (by omega) tw_705 (rok (by decide)) hl.1 (Nat.le_of_ble_eq_true rfl) dX8_begins_34 ?_
        refine ly_ifeq (tgt := 44) S bI_e1 bI_e2 dX8_begins_37 (by decide) (fun h4 => ?_) (fun h4 => ?_)
        · skip
          refine lv_iconst (v := nI 0) S.1 S.2.1 dX8_begins_44 (by decide) ?_
          exact rt_z0 S hr hlk (by simp [beg, h1, h2, h3, h4]) dX8_begins_45
        · skip
          refine lv_iconst (v := nI 1) S.1 S.2.1 dX8_begins_40 (by decide) ?_
          refine lv_goto (tgt := 45) S.1 S.2.1 dX8_begins_41 (by decide) ?_
          exact rt_z1 S hr hlk (by simp [beg, h1, h2, h3, h4]) dX8_begins_45
theorem kX8_begins {p : Program} {l : Launch} {e : Env} {R : Room} {s : State} {m : MethodId} {args : Array Value} {below : List Frame} {meth : Method} {c : Code} {H : Heap} {locs : List Loc} {cells slots : Nat} {Q : State → Prop} {cc : ByteArray} {nL index pc : Nat} {own : String} {ls : Array Slot} {rest : List Value} {D : va_G} {K : Nat → ClassId} {a : Nat → Nat} {w n lap : Nat} {op mu ba la en : Nat → Nat} {pr : Nat → Option Nat} {sc : MSc} {ci : Nat} {j : Nat} {x : Nat} (S : CallFix p m c cc nL s args lw_tb own) (hI : PI D K (mW K a w n lap op mu ba la en pr sc) s H) (hG : GOK w n lap op mu ba la en pr) (hci : ci < 8) (hj : j < 1024) (hx : x < 10) (hlink : Cond.methodLink own index yX8_begins ∈ lw_tb) (hR : RO 1 R cells slots) (hsz : ls.size = nL) (hW : (rest.map fun v => v.category).sum ≤ 8) (hdg : decode cc pc = .ok (.invokevirtual index, 3)) (kk : W p l e R s m args below meth c H locs cells slots Q (F0 m (pc + 3) ls (.int (bI (beg (op ci) j x)) :: rest))) : W p l e R s m args below meth c H locs cells slots Q (F0 m pc ls (.int (nI x) :: .int (nI j) :: .int (nI ci) :: .ref (a 0) :: rest)) :=
  kV (As := [.int (nI ci), .int (nI j), .int (nI x)]) (b := a 0) S (mX8_begins l hG hci hj hx) hlink tw_730 tw_23 tw_50 tw_731 (by show _ ∧ _ ∧ _ = some 3; decide +kernel) (by decide) hR blP (piU hI) (va_recv hI.2 hI.1 (ci := 8) (q0 := 0) rfl rfl) hsz rfl hW hdg kk

set_option maxHeartbeats 4000000 in
set_option maxRecDepth 100000 in
theorem mX8_lengthFrom (l : Launch) {D : va_G} {K : Nat → ClassId} {a : Nat → Nat} {w n lap : Nat} {op mu ba la en : Nat → Nat} {pr : Nat → Option Nat} {sc : MSc} {ci : Nat} {j : Nat} {x : Nat} (hG : GOK w n lap op mu ba la en pr) (hci : ci < 8) (hj : j < 1024) (hx : x < w) : Met l yX8_lengthFrom (TWd yX8_lengthFrom cX8_lengthFrom 5 (some .int)) (rmk 2) (va_Pc [.ref (a 0), .int (nI ci), .int (nI j), .int (nI x)] (fun U => PI D K (mW K a w n lap op mu ba la en pr sc) U U.heap)) (QcRead (nI (lenF w (op ci) j x))) 0 0 (fun _ => False) := by
  refine mt_of (by decide +kernel) (Nat.le_of_ble_eq_true rfl) ?_
  intro p e s m below meth c S hr hlk hI ls hl
  have S : CallFix p m c cX8_lengthFrom 5 s ([.ref (a 0), .int (nI ci), .int (nI j), .int (nI x)] : List Value).toArray lw_tb RX8 := S
  have hl : lv_has ls 5 [(0, .ref (a 0)), (1, .int (nI ci)), (2, .int (nI j)), (3, .int (nI x))] := hl
  obtain ⟨gw1, gw2, gn, gl1, gl2, gop, gmu, gba, gla, gen, gpr, gop2, gmu2, gba2, gla2, gme, gbe, gle, gee⟩ := id hG
  have o1 := gop ci
  refine lv_iconst (v := nI 1) S.1 S.2.1 dX8_lengthFrom_0 (by decide) ?_
  refine lv_istore (lv' := [(4, .int (nI 1)), (0, .ref (a 0)), (1, .int (nI ci)), (2, .int (nI j)), (3, .int (nI x))]) S.1 S.2.1 dX8_lengthFrom_1 hl (by decide) rfl (fun ls hl => ?_)
  have L3 : ∀ (f3 : Nat) (k : Nat), (1 ≤ k) → (x + k ≤ w) → (nb (bdy (op ci) j) (w - (x + k)) (x + k) = nb (bdy (op ci) j) (w - (x + 1)) (x + 1)) → w - (x + k) < f3 → ∀ (ls : Array Slot), lv_has ls 5 [(0, .ref (a 0)), (1, .int (nI ci)), (2, .int (nI j)), (3, .int (nI x)), (4, .int (nI k))] → W p l e (rmk 2) s m ([.ref (a 0), .int (nI ci), .int (nI j), .int (nI x)] : List Value).toArray below meth c s.heap [] 0 0 (MQ below (QcRead (nI (lenF w (op ci) j x))) ([.ref (a 0), .int (nI ci), .int (nI j), .int (nI x)] : List Value).toArray s 0 0 (fun _ => False)) (F0 m 3 ls []) := by
    intro f3
    induction f3 with
    | zero =>
      intro k i1 i2 i3 hm
      exact absurd hm (Nat.not_lt_zero _)
    | succ f3 ih3 =>
      intro k i1 i2 i3 hm3 ls hl
      refine lv_iload_n S.1 S.2.1 dX8_lengthFrom_3 rfl (lv_at hl 3 rfl) ?_
      refine lv_iload S.1 S.2.1 dX8_lengthFrom_4 (lv_at hl 4 rfl) ?_
      refine lv_iadd S.1 S.2.1 dX8_lengthFrom_6 ?_
      refine ly_top (z := nI (x + k)) (nI_add _ _) ?_
      refine lv_aload_n S.1 S.2.1 dX8_lengthFrom_7 rfl (lv_at hl 0 rfl) ?_
      refine g8 S hI 0 rfl 0 (by decide) tw_607 rfl dX8_lengthFrom_8 ?_
      refine ly_cmge (tgt := 49) S (nI_le1 (by omega) (by omega)) (nI_le2 (by omega) (by omega)) dX8_lengthFrom_11 (by decide) (fun h1 => ?_) (fun h1 => ?_)
      · skip
        refine lv_iload S.1 S.2.1 dX8_lengthFrom_49 (lv_at hl 4 rfl) ?_
        exact rt_i S hr hlk (by rw [lenF_e i3 (by first | exact Or.inl (by omega) | exact Or.inr (by simp [bdy, hx]))]) dX8_lengthFrom_51
      · skip
        refine lv_aload_n S.1 S.2.1 dX8_lengthFrom_14 rfl (lv_at hl 0 rfl) ?_
        refine g8 S hI 0 rfl 2 (by decide) tw_609 rfl dX8_lengthFrom_15 ?_
        refine lv_iload_n S.1 S.2.1 dX8_lengthFrom_18 rfl (lv_at hl 1 rfl) ?_
        refine ly_iald (v := (nI (op ci))) S hI 1 rfl (by omega) (by decide) rfl dX8_lengthFrom_19 ?_
        refine lv_iload_n S.1 S.2.1 dX8_lengthFrom_20 rfl (lv_at hl 3 rfl) ?_
        refine lv_iload S.1 S.2.1 dX8_lengthFrom_21 (lv_at hl 4 rfl) ?_
        refine lv_iadd S.1 S.2.1 dX8_lengthFrom_23 ?_
        refine ly_top (z := nI (x + k)) (nI_add _ _) ?_
        refine kX8_has S (by omega) (by omega) tw_705 (rok (by decide)) hl.1 (Nat.le_of_ble_eq_true rfl) dX8_lengthFrom_24 ?_
        refine ly_ifne (tgt := 49) S bI_e2 bI_e1 dX8_lengthFrom_27 (by decide) (fun h2 => ?_) (fun h2 => ?_)
        · skip
          refine lv_iload S.1 S.2.1 dX8_lengthFrom_49 (lv_at hl 4 rfl) ?_
          exact rt_i S hr hlk (by rw [lenF_e i3 (by first | exact Or.inl (by omega) | exact Or.inr (by simp [bdy, h2]))]) dX8_lengthFrom_51
        · skip
          refine lv_aload_n S.1 S.2.1 dX8_lengthFrom_30 rfl (lv_at hl 0 rfl) ?_
          refine lv_iload_n S.1 S.2.1 dX8_lengthFrom_31 rfl (lv_at hl 1 rfl) ?_
          refine lv_iload_n S.1 S.2.1 dX8_lengthFrom_32 rfl (lv_at hl 2 rfl) ?_
          refine lv_iload_n S.1 S.2.1 dX8_lengthFrom_33 rfl (lv_at hl 3 rfl) ?_
          refine lv_iload S.1 S.2.1 dX8_lengthFrom_34 (lv_at hl 4 rfl) ?_
          refine lv_iadd S.1 S.2.1 dX8_lengthFrom_36 ?_
          refine ly_top (z := nI (x + k)) (nI_add _ _) ?_
          refine kX8_begins S hI hG (by omega) (by omega) (by omega) tw_728 (rok (by decide)) hl.1 (Nat.le_of_ble_eq_true rfl) dX8_lengthFrom_37 ?_
          refine ly_ifne (tgt := 49) S bI_e2 bI_e1 dX8_lengthFrom_40 (by decide) (fun h3 => ?_) (fun h3 => ?_)
          · skip
            refine lv_iload S.1 S.2.1 dX8_lengthFrom_49 (lv_at hl 4 rfl) ?_
            exact rt_i S hr hlk (by rw [lenF_e i3 (by first | exact Or.inl (by omega) | exact Or.inr (by simp [bdy, h2, h3]))]) dX8_lengthFrom_51
          · skip
            have hb : bdy (op ci) j (x + k) = false := by simp [bdy, h2, h3]
            refine lv_iinc (v := nI (k + 1)) (lv' := [(4, .int (nI (k + 1))), (0, .ref (a 0)), (1, .int (nI ci)), (2, .int (nI j)), (3, .int (nI x))]) S.1 S.2.1 dX8_lengthFrom_43 hl (k := 4) rfl (nJ_in _ _) (by decide) rfl (fun ls hl => ?_)
            refine lv_goto (tgt := 3) S.1 S.2.1 dX8_lengthFrom_46 (by decide) ?_
            exact ih3 (k + 1) (by omega) (by omega) (lenF_s (by omega) hb i3) (by omega) _ (lv_sub hl [1, 2, 3, 4, 0] rfl)
  exact L3 _ 1 (by omega) (by omega) rfl (Nat.lt_succ_self _) _ (lv_sub hl [1, 2, 3, 4, 0] rfl)
theorem kX8_lengthFrom {p : Program} {l : Launch} {e : Env} {R : Room} {s : State} {m : MethodId} {args : Array Value} {below : List Frame} {meth : Method} {c : Code} {H : Heap} {locs : List Loc} {cells slots : Nat} {Q : State → Prop} {cc : ByteArray} {nL index pc : Nat} {own : String} {ls : Array Slot} {rest : List Value} {D : va_G} {K : Nat → ClassId} {a : Nat → Nat} {w n lap : Nat} {op mu ba la en : Nat → Nat} {pr : Nat → Option Nat} {sc : MSc} {ci : Nat} {j : Nat} {x : Nat} (S : CallFix p m c cc nL s args lw_tb own) (hI : PI D K (mW K a w n lap op mu ba la en pr sc) s H) (hG : GOK w n lap op mu ba la en pr) (hci : ci < 8) (hj : j < 1024) (hx : x < w) (hlink : Cond.methodLink own index yX8_lengthFrom ∈ lw_tb) (hR : RO 2 R cells slots) (hsz : ls.size = nL) (hW : (rest.map fun v => v.category).sum ≤ 8) (hdg : decode cc pc = .ok (.invokevirtual index, 3)) (kk : W p l e R s m args below meth c H locs cells slots Q (F0 m (pc + 3) ls (.int (nI (lenF w (op ci) j x)) :: rest))) : W p l e R s m args below meth c H locs cells slots Q (F0 m pc ls (.int (nI x) :: .int (nI j) :: .int (nI ci) :: .ref (a 0) :: rest)) :=
  kV (As := [.int (nI ci), .int (nI j), .int (nI x)]) (b := a 0) S (mX8_lengthFrom l hG hci hj hx) hlink tw_734 tw_24 tw_50 tw_735 (by show _ ∧ _ ∧ _ = some 3; decide +kernel) (by decide) hR blP (piU hI) (va_recv hI.2 hI.1 (ci := 8) (q0 := 0) rfl rfl) hsz rfl hW hdg kk

set_option maxHeartbeats 4000000 in
set_option maxRecDepth 100000 in
theorem mX8_firstOf (l : Launch) {D : va_G} {K : Nat → ClassId} {a : Nat → Nat} {w n lap : Nat} {op mu ba la en : Nat → Nat} {pr : Nat → Option Nat} {sc : MSc} {ci : Nat} {j : Nat} {x : Nat} (hG : GOK w n lap op mu ba la en pr) (hci : ci < 8) (hj : j < 1024) (hx : x < 10) (ho : Nat.testBit (op ci) x = false) : Met l yX8_firstOf (TWd yX8_firstOf cX8_firstOf 5 (some .int)) (rmk 2) (va_Pc [.ref (a 0), .int (nI ci), .int (nI j), .int (nI x)] (fun U => PI D K (mW K a w n lap op mu ba la en pr sc) U U.heap)) (QcRead (nI (foF (op ci) j x))) 0 0 (fun _ => False) := by
  refine mt_of (by decide +kernel) (Nat.le_of_ble_eq_true rfl) ?_
  intro p e s m below meth c S hr hlk hI ls hl
  have S : CallFix p m c cX8_firstOf 5 s ([.ref (a 0), .int (nI ci), .int (nI j), .int (nI x)] : List Value).toArray lw_tb RX8 := S
  have hl : lv_has ls 5 [(0, .ref (a 0)), (1, .int (nI ci)), (2, .int (nI j)), (3, .int (nI x))] := hl
  obtain ⟨gw1, gw2, gn, gl1, gl2, gop, gmu, gba, gla, gen, gpr, gop2, gmu2, gba2, gla2, gme, gbe, gle, gee⟩ := id hG
  refine lv_iload_n S.1 S.2.1 dX8_firstOf_0 rfl (lv_at hl 3 rfl) ?_
  refine lv_istore (lv' := [(4, .int (nI x)), (0, .ref (a 0)), (1, .int (nI ci)), (2, .int (nI j)), (3, .int (nI x))]) S.1 S.2.1 dX8_firstOf_1 hl (by decide) rfl (fun ls hl => ?_)
  have L3 : ∀ (f3 : Nat) (k : Nat), (k ≤ x) → (Nat.testBit (op ci) k = false) → (foF (op ci) j k = foF (op ci) j x) → k < f3 → ∀ (ls : Array Slot), lv_has ls 5 [(0, .ref (a 0)), (1, .int (nI ci)), (2, .int (nI j)), (3, .int (nI x)), (4, .int (nI k))] → W p l e (rmk 2) s m ([.ref (a 0), .int (nI ci), .int (nI j), .int (nI x)] : List Value).toArray below meth c s.heap [] 0 0 (MQ below (QcRead (nI (foF (op ci) j x))) ([.ref (a 0), .int (nI ci), .int (nI j), .int (nI x)] : List Value).toArray s 0 0 (fun _ => False)) (F0 m 3 ls []) := by
    intro f3
    induction f3 with
    | zero =>
      intro k i1 i2 i3 hm
      exact absurd hm (Nat.not_lt_zero _)
    | succ f3 ih3 =>
      intro k i1 i2 i3 hm3 ls hl
      refine lv_aload_n S.1 S.2.1 dX8_firstOf_3 rfl (lv_at hl 0 rfl) ?_
      refine lv_iload_n S.1 S.2.1 dX8_firstOf_4 rfl (lv_at hl 1 rfl) ?_
      refine lv_iload_n S.1 S.2.1 dX8_firstOf_5 rfl (lv_at hl 2 rfl) ?_
      refine lv_iload S.1 S.2.1 dX8_firstOf_6 (lv_at hl 4 rfl) ?_
      refine kX8_begins S hI hG (by omega) (by omega) (by omega) tw_728 (rok (by decide)) hl.1 (Nat.le_of_ble_eq_true rfl) dX8_firstOf_8 ?_
      refine ly_ifne (tgt := 20) S bI_e2 bI_e1 dX8_firstOf_11 (by decide) (fun h1 => ?_) (fun h1 => ?_)
      · skip
        refine lv_iload S.1 S.2.1 dX8_firstOf_20 (lv_at hl 4 rfl) ?_
        exact rt_i S hr hlk (by rw [← i3, foF_t h1]) dX8_firstOf_22
      · skip
        have q1 := beg_f0 i2 h1
        refine lv_iinc (v := nI (k - 1)) (lv' := [(4, .int (nI (k - 1))), (0, .ref (a 0)), (1, .int (nI ci)), (2, .int (nI j)), (3, .int (nI x))]) S.1 S.2.1 dX8_firstOf_14 hl (k := 4) rfl (nJ_im q1.1) (by decide) rfl (fun ls hl => ?_)
        refine lv_goto (tgt := 3) S.1 S.2.1 dX8_firstOf_17 (by decide) ?_
        exact ih3 (k - 1) (by omega) q1.2 (by rw [← foF_f q1.1 h1, i3]) (by omega) _ (lv_sub hl [1, 2, 3, 4, 0] rfl)
  exact L3 _ x (by omega) ho rfl (Nat.lt_succ_self _) _ (lv_sub hl [1, 2, 3, 4, 0] rfl)
theorem kX8_firstOf {p : Program} {l : Launch} {e : Env} {R : Room} {s : State} {m : MethodId} {args : Array Value} {below : List Frame} {meth : Method} {c : Code} {H : Heap} {locs : List Loc} {cells slots : Nat} {Q : State → Prop} {cc : ByteArray} {nL index pc : Nat} {own : String} {ls : Array Slot} {rest : List Value} {D : va_G} {K : Nat → ClassId} {a : Nat → Nat} {w n lap : Nat} {op mu ba la en : Nat → Nat} {pr : Nat → Option Nat} {sc : MSc} {ci : Nat} {j : Nat} {x : Nat} (S : CallFix p m c cc nL s args lw_tb own) (hI : PI D K (mW K a w n lap op mu ba la en pr sc) s H) (hG : GOK w n lap op mu ba la en pr) (hci : ci < 8) (hj : j < 1024) (hx : x < 10) (ho : Nat.testBit (op ci) x = false) (hlink : Cond.methodLink own index yX8_firstOf ∈ lw_tb) (hR : RO 2 R cells slots) (hsz : ls.size = nL) (hW : (rest.map fun v => v.category).sum ≤ 8) (hdg : decode cc pc = .ok (.invokevirtual index, 3)) (kk : W p l e R s m args below meth c H locs cells slots Q (F0 m (pc + 3) ls (.int (nI (foF (op ci) j x)) :: rest))) : W p l e R s m args below meth c H locs cells slots Q (F0 m pc ls (.int (nI x) :: .int (nI j) :: .int (nI ci) :: .ref (a 0) :: rest)) :=
  kV (As := [.int (nI ci), .int (nI j), .int (nI x)]) (b := a 0) S (mX8_firstOf l hG hci hj hx ho) hlink tw_750 tw_28 tw_50 tw_751 (by show _ ∧ _ ∧ _ = some 3; decide +kernel) (by decide) hR blP (piU hI) (va_recv hI.2 hI.1 (ci := 8) (q0 := 0) rfl rfl) hsz rfl hW hdg kk

set_option maxHeartbeats 4000000 in
set_option maxRecDepth 100000 in
theorem mX8_isWithin (l : Launch) {D : va_G} {K : Nat → ClassId} {a : Nat → Nat} {w n lap : Nat} {op mu ba la en : Nat → Nat} {pr : Nat → Option Nat} {sc : MSc} {ci : Nat} {j : Nat} (hG : GOK w n lap op mu ba la en pr) (hci : ci < 8) (hj : j < 1024) : Met l yX8_isWithin (TWd yX8_isWithin cX8_isWithin 5 (some .boolean)) (rmk 1) (va_Pc [.ref (a 0), .int (nI ci), .int (nI j)] (fun U => PI D K (mW K a w n lap op mu ba la en pr sc) U U.heap)) (QcRead (bI (allN (wiT (op ci) j) w))) 0 0 (fun _ => False) := by
  refine mt_of (by decide +kernel) (Nat.le_of_ble_eq_true rfl) ?_
  intro p e s m below meth c S hr hlk hI ls hl
  have S : CallFix p m c cX8_isWithin 5 s ([.ref (a 0), .int (nI ci), .int (nI j)] : List Value).toArray lw_tb RX8 := S
  have hl : lv_has ls 5 [(0, .ref (a 0)), (1, .int (nI ci)), (2, .int (nI j))] := hl
  obtain ⟨gw1, gw2, gn, gl1, gl2, gop, gmu, gba, gla, gen, gpr, gop2, gmu2, gba2, gla2, gme, gbe, gle, gee⟩ := id hG
  have o1 := gop ci
  refine lv_iconst (v := nI 1) S.1 S.2.1 dX8_isWithin_0 (by decide) ?_
  refine ly_top (z := bI (allN (wiT (op ci) j) 1)) (by rw [show (allN (wiT (op ci) j) 1) = true by simp [allN, wiT]]; rfl) ?_
  refine lv_istore_n (lv' := [(3, .int (bI (allN (wiT (op ci) j) 1))), (0, .ref (a 0)), (1, .int (nI ci)), (2, .int (nI j))]) S.1 S.2.1 dX8_isWithin_1 rfl hl (by decide) rfl (fun ls hl => ?_)
  refine lv_iconst (v := nI 1) S.1 S.2.1 dX8_isWithin_2 (by decide) ?_
  refine lv_istore (lv' := [(4, .int (nI 1)), (3, .int (bI (allN (wiT (op ci) j) 1))), (0, .ref (a 0)), (1, .int (nI ci)), (2, .int (nI j))]) S.1 S.2.1 dX8_isWithin_3 hl (by decide) rfl (fun ls hl => ?_)
  have L5 : ∀ (f5 : Nat) (k : Nat), (1 ≤ k) → (k ≤ w) → w - k < f5 → ∀ (ls : Array Slot), lv_has ls 5 [(0, .ref (a 0)), (1, .int (nI ci)), (2, .int (nI j)), (3, .int (bI (allN (wiT (op ci) j) k))), (4, .int (nI k))] → W p l e (rmk 1) s m ([.ref (a 0), .int (nI ci), .int (nI j)] : List Value).toArray below meth c s.heap [] 0 0 (MQ below (QcRead (bI (allN (wiT (op ci) j) w))) ([.ref (a 0), .int (nI ci), .int (nI j)] : List Value).toArray s 0 0 (fun _ => False)) (F0 m 5 ls []) := by
    intro f5
    induction f5 with
    | zero =>
      intro k i1 i2 hm
      exact absurd hm (Nat.not_lt_zero _)
    | succ f5 ih5 =>
      intro k i1 i2 hm5 ls hl
      refine lv_iload S.1 S.2.1 dX8_isWithin_5 (lv_at hl 4 rfl) ?_
      refine lv_aload_n S.1 S.2.1 dX8_isWithin_7 rfl (lv_at hl 0 rfl) ?_
      refine g8 S hI 0 rfl 0 (by decide) tw_607 rfl dX8_isWithin_8 ?_
      refine ly_cmge (tgt := 69) S (nI_le1 (by omega) (by omega)) (nI_le2 (by omega) (by omega)) dX8_isWithin_11 (by decide) (fun h1 => ?_) (fun h1 => ?_)
      · skip
        refine lv_iload_n S.1 S.2.1 dX8_isWithin_69 rfl (lv_at hl 3 rfl) ?_
        exact rt_z S hr hlk (by rw [show k = w by omega]) dX8_isWithin_70
      · skip
        refine lv_iload_n S.1 S.2.1 dX8_isWithin_14 rfl (lv_at hl 3 rfl) ?_
        refine ly_ifeq (tgt := 61) S bI_e1 bI_e2 dX8_isWithin_15 (by decide) (fun h2 => ?_) (fun h2 => ?_)
        · skip
          refine lv_iconst (v := nI 0) S.1 S.2.1 dX8_isWithin_61 (by decide) ?_
          refine ly_top (z := bI (allN (wiT (op ci) j) (k + 1))) (by rw [show (allN (wiT (op ci) j) (k + 1)) = false by simp [allN, wiT, show ¬ k = 0 by omega, h1, h2]]; rfl) ?_
          refine lv_istore_n (lv' := [(3, .int (bI (allN (wiT (op ci) j) (k + 1)))), (0, .ref (a 0)), (1, .int (nI ci)), (2, .int (nI j)), (4, .int (nI k))]) S.1 S.2.1 dX8_isWithin_62 rfl hl (by decide) rfl (fun ls hl => ?_)
          refine lv_iinc (v := nI (k + 1)) (lv' := [(4, .int (nI (k + 1))), (3, .int (bI (allN (wiT (op ci) j) (k + 1)))), (0, .ref (a 0)), (1, .int (nI ci)), (2, .int (nI j))]) S.1 S.2.1 dX8_isWithin_63 hl (k := 4) rfl (nJ_in _ _) (by decide) rfl (fun ls hl => ?_)
          refine lv_goto (tgt := 5) S.1 S.2.1 dX8_isWithin_66 (by decide) ?_
          exact ih5 (k + 1) (by omega) (by omega) (by omega) _ (lv_sub hl [2, 3, 4, 1, 0] rfl)
        · skip
          refine lv_iload_n S.1 S.2.1 dX8_isWithin_18 rfl (lv_at hl 2 rfl) ?_
          refine lv_iload S.1 S.2.1 dX8_isWithin_19 (lv_at hl 4 rfl) ?_
          refine kX8_has S (by omega) (by omega) tw_705 (rok (by decide)) hl.1 (Nat.le_of_ble_eq_true rfl) dX8_isWithin_21 ?_
          refine ly_ifeq (tgt := 57) S bI_e1 bI_e2 dX8_isWithin_24 (by decide) (fun h3 => ?_) (fun h3 => ?_)
          · skip
            refine lv_iconst (v := nI 1) S.1 S.2.1 dX8_isWithin_57 (by decide) ?_
            refine lv_goto (tgt := 62) S.1 S.2.1 dX8_isWithin_58 (by decide) ?_
            refine ly_top (z := bI (allN (wiT (op ci) j) (k + 1))) (by rw [show (allN (wiT (op ci) j) (k + 1)) = true by simp [allN, wiT, show ¬ k = 0 by omega, h1, h2, h3]]; rfl) ?_
            refine lv_istore_n (lv' := [(3, .int (bI (allN (wiT (op ci) j) (k + 1)))), (0, .ref (a 0)), (1, .int (nI ci)), (2, .int (nI j)), (4, .int (nI k))]) S.1 S.2.1 dX8_isWithin_62 rfl hl (by decide) rfl (fun ls hl => ?_)
            refine lv_iinc (v := nI (k + 1)) (lv' := [(4, .int (nI (k + 1))), (3, .int (bI (allN (wiT (op ci) j) (k + 1)))), (0, .ref (a 0)), (1, .int (nI ci)), (2, .int (nI j))]) S.1 S.2.1 dX8_isWithin_63 hl (k := 4) rfl (nJ_in _ _) (by decide) rfl (fun ls hl => ?_)
            refine lv_goto (tgt := 5) S.1 S.2.1 dX8_isWithin_66 (by decide) ?_
            exact ih5 (k + 1) (by omega) (by omega) (by omega) _ (lv_sub hl [2, 3, 4, 1, 0] rfl)
          · skip
            refine lv_aload_n S.1 S.2.1 dX8_isWithin_27 rfl (lv_at hl 0 rfl) ?_
            refine g8 S hI 0 rfl 2 (by decide) tw_609 rfl dX8_isWithin_28 ?_
            refine lv_iload_n S.1 S.2.1 dX8_isWithin_31 rfl (lv_at hl 1 rfl) ?_
            refine ly_iald (v := (nI (op ci))) S hI 1 rfl (by omega) (by decide) rfl dX8_isWithin_32 ?_
            refine lv_iload S.1 S.2.1 dX8_isWithin_33 (lv_at hl 4 rfl) ?_
            refine kX8_has S (by omega) (by omega) tw_705 (rok (by decide)) hl.1 (Nat.le_of_ble_eq_true rfl) dX8_isWithin_35 ?_
            refine ly_ifne (tgt := 61) S bI_e2 bI_e1 dX8_isWithin_38 (by decide) (fun h4 => ?_) (fun h4 => ?_)
            · skip
              refine lv_iconst (v := nI 0) S.1 S.2.1 dX8_isWithin_61 (by decide) ?_
              refine ly_top (z := bI (allN (wiT (op ci) j) (k + 1))) (by rw [show (allN (wiT (op ci) j) (k + 1)) = false by simp [allN, wiT, show ¬ k = 0 by omega, h1, h2, h3, h4]]; rfl) ?_
              refine lv_istore_n (lv' := [(3, .int (bI (allN (wiT (op ci) j) (k + 1)))), (0, .ref (a 0)), (1, .int (nI ci)), (2, .int (nI j)), (4, .int (nI k))]) S.1 S.2.1 dX8_isWithin_62 rfl hl (by decide) rfl (fun ls hl => ?_)
              refine lv_iinc (v := nI (k + 1)) (lv' := [(4, .int (nI (k + 1))), (3, .int (bI (allN (wiT (op ci) j) (k + 1)))), (0, .ref (a 0)), (1, .int (nI ci)), (2, .int (nI j))]) S.1 S.2.1 dX8_isWithin_63 hl (k := 4) rfl (nJ_in _ _) (by decide) rfl (fun ls hl => ?_)
              refine lv_goto (tgt := 5) S.1 S.2.1 dX8_isWithin_66 (by decide) ?_
              exact ih5 (k + 1) (by omega) (by omega) (by omega) _ (lv_sub hl [2, 3, 4, 1, 0] rfl)
            · skip
              refine lv_aload_n S.1 S.2.1 dX8_isWithin_41 rfl (lv_at hl 0 rfl) ?_
              refine g8 S hI 0 rfl 2 (by decide) tw_609 rfl dX8_isWithin_42 ?_
              refine lv_iload_n S.1 S.2.1 dX8_isWithin_45 rfl (lv_at hl 1 rfl) ?_
              refine ly_iald (v := (nI (op ci))) S hI 1 rfl (by omega) (by decide) rfl dX8_isWithin_46 ?_
              refine lv_iload S.1 S.2.1 dX8_isWithin_47 (lv_at hl 4 rfl) ?_
              refine lv_iconst (v := nI 1) S.1 S.2.1 dX8_isWithin_49 (by decide) ?_
              refine lv_isub S.1 S.2.1 dX8_isWithin_50 ?_
              refine ly_top (z := nI (k - 1)) (pk_sub (by omega)) ?_
              refine kX8_has S (by omega) (by omega) tw_705 (rok (by decide)) hl.1 (Nat.le_of_ble_eq_true rfl) dX8_isWithin_51 ?_
              refine ly_ifne (tgt := 61) S bI_e2 bI_e1 dX8_isWithin_54 (by decide) (fun h5 => ?_) (fun h5 => ?_)
              · skip
                refine lv_iconst (v := nI 0) S.1 S.2.1 dX8_isWithin_61 (by decide) ?_
                refine ly_top (z := bI (allN (wiT (op ci) j) (k + 1))) (by rw [show (allN (wiT (op ci) j) (k + 1)) = false by simp [allN, wiT, show ¬ k = 0 by omega, h1, h2, h3, h4, h5]]; rfl) ?_
                refine lv_istore_n (lv' := [(3, .int (bI (allN (wiT (op ci) j) (k + 1)))), (0, .ref (a 0)), (1, .int (nI ci)), (2, .int (nI j)), (4, .int (nI k))]) S.1 S.2.1 dX8_isWithin_62 rfl hl (by decide) rfl (fun ls hl => ?_)
                refine lv_iinc (v := nI (k + 1)) (lv' := [(4, .int (nI (k + 1))), (3, .int (bI (allN (wiT (op ci) j) (k + 1)))), (0, .ref (a 0)), (1, .int (nI ci)), (2, .int (nI j))]) S.1 S.2.1 dX8_isWithin_63 hl (k := 4) rfl (nJ_in _ _) (by decide) rfl (fun ls hl => ?_)
                refine lv_goto (tgt := 5) S.1 S.2.1 dX8_isWithin_66 (by decide) ?_
                exact ih5 (k + 1) (by omega) (by omega) (by omega) _ (lv_sub hl [2, 3, 4, 1, 0] rfl)
              · skip
                refine lv_iconst (v := nI 1) S.1 S.2.1 dX8_isWithin_57 (by decide) ?_
                refine lv_goto (tgt := 62) S.1 S.2.1 dX8_isWithin_58 (by decide) ?_
                refine ly_top (z := bI (allN (wiT (op ci) j) (k + 1))) (by rw [show (allN (wiT (op ci) j) (k + 1)) = true by simp [allN, wiT, show ¬ k = 0 by omega, h1, h2, h3, h4, h5]]; rfl) ?_
                refine lv_istore_n (lv' := [(3, .int (bI (allN (wiT (op ci) j) (k + 1)))), (0, .ref (a 0)), (1, .int (nI ci)), (2, .int (nI j)), (4, .int (nI k))]) S.1 S.2.1 dX8_isWithin_62 rfl hl (by decide) rfl (fun ls hl => ?_)
                refine lv_iinc (v := nI (k + 1)) (lv' := [(4, .int (nI (k + 1))), (3, .int (bI (allN (wiT (op ci) j) (k + 1)))), (0, .ref (a 0)), (1, .int (nI ci)), (2, .int (nI j))]) S.1 S.2.1 dX8_isWithin_63 hl (k := 4) rfl (nJ_in _ _) (by decide) rfl (fun ls hl => ?_)
                refine lv_goto (tgt := 5) S.1 S.2.1 dX8_isWithin_66 (by decide) ?_
                exact ih5 (k + 1) (by omega) (by omega) (by omega) _ (lv_sub hl [2, 3, 4, 1, 0] rfl)
  exact L5 _ 1 (by omega) (by omega) (Nat.lt_succ_self _) _ (lv_sub hl [2, 3, 4, 1, 0] rfl)
theorem kX8_isWithin {p : Program} {l : Launch} {e : Env} {R : Room} {s : State} {m : MethodId} {args : Array Value} {below : List Frame} {meth : Method} {c : Code} {H : Heap} {locs : List Loc} {cells slots : Nat} {Q : State → Prop} {cc : ByteArray} {nL index pc : Nat} {own : String} {ls : Array Slot} {rest : List Value} {D : va_G} {K : Nat → ClassId} {a : Nat → Nat} {w n lap : Nat} {op mu ba la en : Nat → Nat} {pr : Nat → Option Nat} {sc : MSc} {ci : Nat} {j : Nat} (S : CallFix p m c cc nL s args lw_tb own) (hI : PI D K (mW K a w n lap op mu ba la en pr sc) s H) (hG : GOK w n lap op mu ba la en pr) (hci : ci < 8) (hj : j < 1024) (hlink : Cond.methodLink own index yX8_isWithin ∈ lw_tb) (hR : RO 1 R cells slots) (hsz : ls.size = nL) (hW : (rest.map fun v => v.category).sum ≤ 8) (hdg : decode cc pc = .ok (.invokevirtual index, 3)) (kk : W p l e R s m args below meth c H locs cells slots Q (F0 m (pc + 3) ls (.int (bI (allN (wiT (op ci) j) w)) :: rest))) : W p l e R s m args below meth c H locs cells slots Q (F0 m pc ls (.int (nI j) :: .int (nI ci) :: .ref (a 0) :: rest)) :=
  kV (As := [.int (nI ci), .int (nI j)]) (b := a 0) S (mX8_isWithin l hG hci hj) hlink tw_722 tw_21 tw_50 tw_723 (by show _ ∧ _ ∧ _ = some 2; decide +kernel) (by decide) hR blP (piU hI) (va_recv hI.2 hI.1 (ci := 8) (q0 := 0) rfl rfl) hsz rfl hW hdg kk

set_option maxHeartbeats 4000000 in
set_option maxRecDepth 100000 in
theorem mX8_isPriced (l : Launch) {D : va_G} {K : Nat → ClassId} {a : Nat → Nat} {w n lap : Nat} {op mu ba la en : Nat → Nat} {pr : Nat → Option Nat} {sc : MSc} {L : Nat} (hG : GOK w n lap op mu ba la en pr) (hL : 1 ≤ L) (hL2 : L ≤ 10) : Met l yX8_isPriced (TWd yX8_isPriced cX8_isPriced 2 (some .boolean)) (rmk 0) (va_Pc [.ref (a 0), .int (nI L)] (fun U => PI D K (mW K a w n lap op mu ba la en pr sc) U U.heap)) (QcRead (bI (prc pr L))) 0 0 (fun _ => False) := by
  refine mt_of (by decide +kernel) (Nat.le_of_ble_eq_true rfl) ?_
  intro p e s m below meth c S hr hlk hI ls hl
  have S : CallFix p m c cX8_isPriced 2 s ([.ref (a 0), .int (nI L)] : List Value).toArray lw_tb RX8 := S
  have hl : lv_has ls 2 [(0, .ref (a 0)), (1, .int (nI L))] := hl
  obtain ⟨gw1, gw2, gn, gl1, gl2, gop, gmu, gba, gla, gen, gpr, gop2, gmu2, gba2, gla2, gme, gbe, gle, gee⟩ := id hG
  refine lv_iload_n S.1 S.2.1 dX8_isPriced_0 rfl (lv_at hl 1 rfl) ?_
  refine lv_bipush (v := nI 6) S.1 S.2.1 dX8_isPriced_1 (by decide) ?_
  refine ly_cmgt (tgt := 21) S (nI_l1 (by omega) (by omega)) (nI_l2 (by omega) (by omega)) dX8_isPriced_3 (by decide) (fun h1 => ?_) (fun h1 => ?_)
  · skip
    refine lv_iconst (v := nI 0) S.1 S.2.1 dX8_isPriced_21 (by decide) ?_
    exact rt_z0 S hr hlk (by simp [prc]; omega) dX8_isPriced_22
  · skip
    refine lv_aload_n S.1 S.2.1 dX8_isPriced_6 rfl (lv_at hl 0 rfl) ?_
    refine g8 S hI 0 rfl 6 (by decide) tw_613 rfl dX8_isPriced_7 ?_
    refine lv_iload_n S.1 S.2.1 dX8_isPriced_10 rfl (lv_at hl 1 rfl) ?_
    refine ly_iald (v := (pz 0 pr L)) S hI 5 rfl (by omega) (by decide) rfl dX8_isPriced_11 ?_
    refine lv_bipush (v := (-9)) S.1 S.2.1 dX8_isPriced_12 (by decide) ?_
    refine ly_cmeq (tgt := 21) S (fun q => q) (fun q => q) dX8_isPriced_14 (by decide) (fun h2 => ?_) (fun h2 => ?_)
    · skip
      refine lv_iconst (v := nI 0) S.1 S.2.1 dX8_isPriced_21 (by decide) ?_
      exact rt_z0 S hr hlk (by simp [prc, pz_n gpr hL h2]) dX8_isPriced_22
    · skip
      refine lv_iconst (v := nI 1) S.1 S.2.1 dX8_isPriced_17 (by decide) ?_
      refine lv_goto (tgt := 22) S.1 S.2.1 dX8_isPriced_18 (by decide) ?_
      exact rt_z1 S hr hlk (by simp [prc, pz_s hL h2, h1]) dX8_isPriced_22
theorem kX8_isPriced {p : Program} {l : Launch} {e : Env} {R : Room} {s : State} {m : MethodId} {args : Array Value} {below : List Frame} {meth : Method} {c : Code} {H : Heap} {locs : List Loc} {cells slots : Nat} {Q : State → Prop} {cc : ByteArray} {nL index pc : Nat} {own : String} {ls : Array Slot} {rest : List Value} {D : va_G} {K : Nat → ClassId} {a : Nat → Nat} {w n lap : Nat} {op mu ba la en : Nat → Nat} {pr : Nat → Option Nat} {sc : MSc} {L : Nat} (S : CallFix p m c cc nL s args lw_tb own) (hI : PI D K (mW K a w n lap op mu ba la en pr sc) s H) (hG : GOK w n lap op mu ba la en pr) (hL : 1 ≤ L) (hL2 : L ≤ 10) (hlink : Cond.methodLink own index yX8_isPriced ∈ lw_tb) (hR : RO 0 R cells slots) (hsz : ls.size = nL) (hW : (rest.map fun v => v.category).sum ≤ 8) (hdg : decode cc pc = .ok (.invokevirtual index, 3)) (kk : W p l e R s m args below meth c H locs cells slots Q (F0 m (pc + 3) ls (.int (bI (prc pr L)) :: rest))) : W p l e R s m args below meth c H locs cells slots Q (F0 m pc ls (.int (nI L) :: .ref (a 0) :: rest)) :=
  kV (As := [.int (nI L)]) (b := a 0) S (mX8_isPriced l hG hL hL2) hlink tw_742 tw_26 tw_50 tw_743 (by show _ ∧ _ ∧ _ = some 1; decide +kernel) (by decide) hR blP (piU hI) (va_recv hI.2 hI.1 (ci := 8) (q0 := 0) rfl rfl) hsz rfl hW hdg kk

set_option maxHeartbeats 4000000 in
set_option maxRecDepth 100000 in
theorem mX8_areEnds (l : Launch) {D : va_G} {K : Nat → ClassId} {a : Nat → Nat} {w n lap : Nat} {op mu ba la en : Nat → Nat} {pr : Nat → Option Nat} {sc : MSc} {ci : Nat} {j : Nat} (hG : GOK w n lap op mu ba la en pr) (hci : ci < 8) (hj : j < 1024) : Met l yX8_areEnds (TWd yX8_areEnds cX8_areEnds 6 (some .boolean)) (rmk 3) (va_Pc [.ref (a 0), .int (nI ci), .int (nI j)] (fun U => PI D K (mW K a w n lap op mu ba la en pr sc) U U.heap)) (QcRead (bI (enOk w (op ci) j (en (ci % 2 * 2)) (en (ci % 2 * 2 + 1))))) 0 0 (fun _ => False) := by
  refine mt_of (by decide +kernel) (Nat.le_of_ble_eq_true rfl) ?_
  intro p e s m below meth c S hr hlk hI ls hl
  have S : CallFix p m c cX8_areEnds 6 s ([.ref (a 0), .int (nI ci), .int (nI j)] : List Value).toArray lw_tb RX8 := S
  have hl : lv_has ls 6 [(0, .ref (a 0)), (1, .int (nI ci)), (2, .int (nI j))] := hl
  obtain ⟨gw1, gw2, gn, gl1, gl2, gop, gmu, gba, gla, gen, gpr, gop2, gmu2, gba2, gla2, gme, gbe, gle, gee⟩ := id hG
  have o1 := gop ci
  have o2 := gen (ci % 2 * 2)
  have o3 := gen (ci % 2 * 2 + 1)
  have J42 : ∀ (ls : Array Slot), lv_has ls 6 [(0, .ref (a 0)), (1, .int (nI ci)), (2, .int (nI j)), (3, .int (bI (Nat.testBit (op ci) 0 || Nat.testBit (en (ci % 2 * 2)) (lenF w (op ci) j 0))))] → W p l e (rmk 3) s m ([.ref (a 0), .int (nI ci), .int (nI j)] : List Value).toArray below meth c s.heap [] 0 0 (MQ below (QcRead (bI (enOk w (op ci) j (en (ci % 2 * 2)) (en (ci % 2 * 2 + 1))))) ([.ref (a 0), .int (nI ci), .int (nI j)] : List Value).toArray s 0 0 (fun _ => False)) (F0 m 42 ls []) := by
    intro  ls hl
    refine lv_aload_n S.1 S.2.1 dX8_areEnds_42 rfl (lv_at hl 0 rfl) ?_
    refine g8 S hI 0 rfl 0 (by decide) tw_607 rfl dX8_areEnds_43 ?_
    refine lv_iconst (v := nI 1) S.1 S.2.1 dX8_areEnds_46 (by decide) ?_
    refine lv_isub S.1 S.2.1 dX8_areEnds_47 ?_
    refine ly_top (z := nI (w - 1)) (pk_sub (by omega)) ?_
    refine lv_istore (lv' := [(4, .int (nI (w - 1))), (0, .ref (a 0)), (1, .int (nI ci)), (2, .int (nI j)), (3, .int (bI (Nat.testBit (op ci) 0 || Nat.testBit (en (ci % 2 * 2)) (lenF w (op ci) j 0))))]) S.1 S.2.1 dX8_areEnds_48 hl (by decide) rfl (fun ls hl => ?_)
    have J103 : ∀ (ls : Array Slot), lv_has ls 6 [(0, .ref (a 0)), (1, .int (nI ci)), (2, .int (nI j)), (3, .int (bI (Nat.testBit (op ci) 0 || Nat.testBit (en (ci % 2 * 2)) (lenF w (op ci) j 0)))), (4, .int (nI (w - 1))), (5, .int (bI (Nat.testBit (op ci) (w - 1) || Nat.testBit (en (ci % 2 * 2 + 1)) (lenF w (op ci) j (foF (op ci) j (w - 1))))))] → W p l e (rmk 3) s m ([.ref (a 0), .int (nI ci), .int (nI j)] : List Value).toArray below meth c s.heap [] 0 0 (MQ below (QcRead (bI (enOk w (op ci) j (en (ci % 2 * 2)) (en (ci % 2 * 2 + 1))))) ([.ref (a 0), .int (nI ci), .int (nI j)] : List Value).toArray s 0 0 (fun _ => False)) (F0 m 103 ls []) := by
      intro  ls hl
      refine lv_iload_n S.1 S.2.1 dX8_areEnds_103 rfl (lv_at hl 3 rfl) ?_
      refine ly_ifeq (tgt := 116) S bI_e1 bI_e2 dX8_areEnds_104 (by decide) (fun h1 => ?_) (fun h1 => ?_)
      · skip
        refine lv_iconst (v := nI 0) S.1 S.2.1 dX8_areEnds_116 (by decide) ?_
        exact rt_z0 S hr hlk (by simp only [enOk, h1]; rfl) dX8_areEnds_117
      · skip
        refine lv_iload S.1 S.2.1 dX8_areEnds_107 (lv_at hl 5 rfl) ?_
        refine ly_ifeq (tgt := 116) S bI_e1 bI_e2 dX8_areEnds_109 (by decide) (fun h2 => ?_) (fun h2 => ?_)
        · skip
          refine lv_iconst (v := nI 0) S.1 S.2.1 dX8_areEnds_116 (by decide) ?_
          exact rt_z0 S hr hlk (by simp only [enOk, h1, h2]; rfl) dX8_areEnds_117
        · skip
          refine lv_iconst (v := nI 1) S.1 S.2.1 dX8_areEnds_112 (by decide) ?_
          refine lv_goto (tgt := 117) S.1 S.2.1 dX8_areEnds_113 (by decide) ?_
          exact rt_z1 S hr hlk (by simp only [enOk, h1, h2]; rfl) dX8_areEnds_117
    refine lv_aload_n S.1 S.2.1 dX8_areEnds_50 rfl (lv_at hl 1 rfl) ?_
    refine g8 S hI 0 rfl 2 (by decide) tw_609 rfl dX8_areEnds_51 ?_
    refine lv_iload_n S.1 S.2.1 dX8_areEnds_54 rfl (lv_at hl 2 rfl) ?_
    refine ly_iald (v := (nI (op ci))) S hI 1 rfl (by omega) (by decide) rfl dX8_areEnds_55 ?_
    refine lv_iload S.1 S.2.1 dX8_areEnds_56 (lv_at hl 0 rfl) ?_
    refine kX8_has S (by omega) (by omega) tw_705 (rok (by decide)) hl.1 (Nat.le_of_ble_eq_true rfl) dX8_areEnds_58 ?_
    refine ly_ifne (tgt := 96) S bI_e2 bI_e1 dX8_areEnds_61 (by decide) (fun h3 => ?_) (fun h3 => ?_)
    · skip
      refine lv_iconst (v := nI 1) S.1 S.2.1 dX8_areEnds_96 (by decide) ?_
      refine lv_goto (tgt := 101) S.1 S.2.1 dX8_areEnds_97 (by decide) ?_
      refine ly_top (z := bI (Nat.testBit (op ci) (w - 1) || Nat.testBit (en (ci % 2 * 2 + 1)) (lenF w (op ci) j (foF (op ci) j (w - 1))))) (by rw [show (Nat.testBit (op ci) (w - 1) || Nat.testBit (en (ci % 2 * 2 + 1)) (lenF w (op ci) j (foF (op ci) j (w - 1)))) = true by simp [h3]]; rfl) ?_
      refine lv_istore (lv' := [(5, .int (bI (Nat.testBit (op ci) (w - 1) || Nat.testBit (en (ci % 2 * 2 + 1)) (lenF w (op ci) j (foF (op ci) j (w - 1)))))), (4, .int (nI (w - 1))), (0, .ref (a 0)), (1, .int (nI ci)), (2, .int (nI j)), (3, .int (bI (Nat.testBit (op ci) 0 || Nat.testBit (en (ci % 2 * 2)) (lenF w (op ci) j 0))))]) S.1 S.2.1 dX8_areEnds_101 hl (by decide) rfl (fun ls hl => ?_)
      exact J103  _ (lv_sub hl [2, 3, 4, 5, 1, 0] rfl)
    · skip
      refine lv_aload_n S.1 S.2.1 dX8_areEnds_64 rfl (lv_at hl 1 rfl) ?_
      refine g8 S hI 0 rfl 7 (by decide) tw_614 rfl dX8_areEnds_65 ?_
      refine lv_iload_n S.1 S.2.1 dX8_areEnds_68 rfl (lv_at hl 2 rfl) ?_
      refine lv_iconst (v := nI 2) S.1 S.2.1 dX8_areEnds_69 (by decide) ?_
      refine lv_irem S.1 S.2.1 dX8_areEnds_70 (by decide) ?_
      refine ly_top (z := nI (ci % 2)) (nI_rem (by omega) (by omega) (by omega)) ?_
      refine lv_iconst (v := nI 2) S.1 S.2.1 dX8_areEnds_71 (by decide) ?_
      refine lv_imul S.1 S.2.1 dX8_areEnds_72 ?_
      refine ly_top (z := nI ((ci % 2) * 2)) (pk_mul _ _) ?_
      refine lv_iconst (v := nI 1) S.1 S.2.1 dX8_areEnds_73 (by decide) ?_
      refine lv_iadd S.1 S.2.1 dX8_areEnds_74 ?_
      refine ly_top (z := nI (((ci % 2) * 2) + 1)) (nI_add _ _) ?_
      refine ly_top (z := (nI (ci % 2 * 2 + 1))) rfl ?_
      refine ly_iald (v := (nI (en (ci % 2 * 2 + 1)))) S hI 6 rfl (by omega) (by decide) rfl dX8_areEnds_75 ?_
      refine lv_aload_n S.1 S.2.1 dX8_areEnds_76 rfl (lv_at hl 1 rfl) ?_
      refine lv_iload_n S.1 S.2.1 dX8_areEnds_77 rfl (lv_at hl 2 rfl) ?_
      refine lv_iload_n S.1 S.2.1 dX8_areEnds_78 rfl (lv_at hl 3 rfl) ?_
      refine lv_aload_n S.1 S.2.1 dX8_areEnds_79 rfl (lv_at hl 1 rfl) ?_
      refine lv_iload_n S.1 S.2.1 dX8_areEnds_80 rfl (lv_at hl 2 rfl) ?_
      refine lv_iload_n S.1 S.2.1 dX8_areEnds_81 rfl (lv_at hl 3 rfl) ?_
      refine lv_iload S.1 S.2.1 dX8_areEnds_82 (lv_at hl 0 rfl) ?_
      refine kX8_firstOf S hI hG (by omega) (by omega) (by omega) (by assumption) tw_748 (rok (by decide)) hl.1 (Nat.le_of_ble_eq_true rfl) dX8_areEnds_84 ?_
      have b4 : foF (op ci) j (w - 1) ≤ (w - 1) := foF_le _ _ _
      refine kX8_lengthFrom S hI hG (by omega) (by omega) (by omega) tw_732 (rok (by decide)) hl.1 (Nat.le_of_ble_eq_true rfl) dX8_areEnds_87 ?_
      have b5 : 1 ≤ lenF w (op ci) j (foF (op ci) j (w - 1)) := lenF_pos
      have b6 : (foF (op ci) j (w - 1)) + lenF w (op ci) j (foF (op ci) j (w - 1)) ≤ w := lenF_le (by omega)
      refine kX8_has S (by omega) (by omega) tw_705 (rok (by decide)) hl.1 (Nat.le_of_ble_eq_true rfl) dX8_areEnds_90 ?_
      refine ly_ifeq (tgt := 100) S bI_e1 bI_e2 dX8_areEnds_93 (by decide) (fun h7 => ?_) (fun h7 => ?_)
      · skip
        refine lv_iconst (v := nI 0) S.1 S.2.1 dX8_areEnds_100 (by decide) ?_
        refine ly_top (z := bI (Nat.testBit (op ci) (w - 1) || Nat.testBit (en (ci % 2 * 2 + 1)) (lenF w (op ci) j (foF (op ci) j (w - 1))))) (by rw [show (Nat.testBit (op ci) (w - 1) || Nat.testBit (en (ci % 2 * 2 + 1)) (lenF w (op ci) j (foF (op ci) j (w - 1)))) = false by simp [h3, h7]]; rfl) ?_
        refine lv_istore (lv' := [(5, .int (bI (Nat.testBit (op ci) (w - 1) || Nat.testBit (en (ci % 2 * 2 + 1)) (lenF w (op ci) j (foF (op ci) j (w - 1)))))), (4, .int (nI (w - 1))), (0, .ref (a 0)), (1, .int (nI ci)), (2, .int (nI j)), (3, .int (bI (Nat.testBit (op ci) 0 || Nat.testBit (en (ci % 2 * 2)) (lenF w (op ci) j 0))))]) S.1 S.2.1 dX8_areEnds_101 hl (by decide) rfl (fun ls hl => ?_)
        exact J103  _ (lv_sub hl [2, 3, 4, 5, 1, 0] rfl)
      · skip
        refine lv_iconst (v := nI 1) S.1 S.2.1 dX8_areEnds_96 (by decide) ?_
        refine lv_goto (tgt := 101) S.1 S.2.1 dX8_areEnds_97 (by decide) ?_
        refine ly_top (z := bI (Nat.testBit (op ci) (w - 1) || Nat.testBit (en (ci % 2 * 2 + 1)) (lenF w (op ci) j (foF (op ci) j (w - 1))))) (by rw [show (Nat.testBit (op ci) (w - 1) || Nat.testBit (en (ci % 2 * 2 + 1)) (lenF w (op ci) j (foF (op ci) j (w - 1)))) = true by simp [h3, h7]]; rfl) ?_
        refine lv_istore (lv' := [(5, .int (bI (Nat.testBit (op ci) (w - 1) || Nat.testBit (en (ci % 2 * 2 + 1)) (lenF w (op ci) j (foF (op ci) j (w - 1)))))), (4, .int (nI (w - 1))), (0, .ref (a 0)), (1, .int (nI ci)), (2, .int (nI j)), (3, .int (bI (Nat.testBit (op ci) 0 || Nat.testBit (en (ci % 2 * 2)) (lenF w (op ci) j 0))))]) S.1 S.2.1 dX8_areEnds_101 hl (by decide) rfl (fun ls hl => ?_)
        exact J103  _ (lv_sub hl [2, 3, 4, 5, 1, 0] rfl)
  refine lv_aload_n S.1 S.2.1 dX8_areEnds_0 rfl (lv_at hl 0 rfl) ?_
  refine g8 S hI 0 rfl 2 (by decide) tw_609 rfl dX8_areEnds_1 ?_
  refine lv_iload_n S.1 S.2.1 dX8_areEnds_4 rfl (lv_at hl 1 rfl) ?_
  refine ly_iald (v := (nI (op ci))) S hI 1 rfl (by omega) (by decide) rfl dX8_areEnds_5 ?_
  refine lv_iconst (v := nI 0) S.1 S.2.1 dX8_areEnds_6 (by decide) ?_
  refine kX8_has S (by omega) (by omega) tw_705 (rok (by decide)) hl.1 (Nat.le_of_ble_eq_true rfl) dX8_areEnds_7 ?_
  refine ly_ifne (tgt := 36) S bI_e2 bI_e1 dX8_areEnds_10 (by decide) (fun h8 => ?_) (fun h8 => ?_)
  · skip
    refine lv_iconst (v := nI 1) S.1 S.2.1 dX8_areEnds_36 (by decide) ?_
    refine lv_goto (tgt := 41) S.1 S.2.1 dX8_areEnds_37 (by decide) ?_
    refine ly_top (z := bI (Nat.testBit (op ci) 0 || Nat.testBit (en (ci % 2 * 2)) (lenF w (op ci) j 0))) (by rw [show (Nat.testBit (op ci) 0 || Nat.testBit (en (ci % 2 * 2)) (lenF w (op ci) j 0)) = true by simp [h8]]; rfl) ?_
    refine lv_istore_n (lv' := [(3, .int (bI (Nat.testBit (op ci) 0 || Nat.testBit (en (ci % 2 * 2)) (lenF w (op ci) j 0)))), (0, .ref (a 0)), (1, .int (nI ci)), (2, .int (nI j))]) S.1 S.2.1 dX8_areEnds_41 rfl hl (by decide) rfl (fun ls hl => ?_)
    exact J42  _ (lv_sub hl [1, 2, 3, 0] rfl)
  · skip
    refine lv_aload_n S.1 S.2.1 dX8_areEnds_13 rfl (lv_at hl 0 rfl) ?_
    refine g8 S hI 0 rfl 7 (by decide) tw_614 rfl dX8_areEnds_14 ?_
    refine lv_iload_n S.1 S.2.1 dX8_areEnds_17 rfl (lv_at hl 1 rfl) ?_
    refine lv_iconst (v := nI 2) S.1 S.2.1 dX8_areEnds_18 (by decide) ?_
    refine lv_irem S.1 S.2.1 dX8_areEnds_19 (by decide) ?_
    refine ly_top (z := nI (ci % 2)) (nI_rem (by omega) (by omega) (by omega)) ?_
    refine lv_iconst (v := nI 2) S.1 S.2.1 dX8_areEnds_20 (by decide) ?_
    refine lv_imul S.1 S.2.1 dX8_areEnds_21 ?_
    refine ly_top (z := nI ((ci % 2) * 2)) (pk_mul _ _) ?_
    refine ly_top (z := (nI (ci % 2 * 2))) rfl ?_
    refine ly_iald (v := (nI (en (ci % 2 * 2)))) S hI 6 rfl (by omega) (by decide) rfl dX8_areEnds_22 ?_
    refine lv_aload_n S.1 S.2.1 dX8_areEnds_23 rfl (lv_at hl 0 rfl) ?_
    refine lv_iload_n S.1 S.2.1 dX8_areEnds_24 rfl (lv_at hl 1 rfl) ?_
    refine lv_iload_n S.1 S.2.1 dX8_areEnds_25 rfl (lv_at hl 2 rfl) ?_
    refine lv_iconst (v := nI 0) S.1 S.2.1 dX8_areEnds_26 (by decide) ?_
    refine kX8_lengthFrom S hI hG (by omega) (by omega) (by omega) tw_732 (rok (by decide)) hl.1 (Nat.le_of_ble_eq_true rfl) dX8_areEnds_27 ?_
    have b9 : 1 ≤ lenF w (op ci) j 0 := lenF_pos
    have b10 : 0 + lenF w (op ci) j 0 ≤ w := lenF_le (by omega)
    refine kX8_has S (by omega) (by omega) tw_705 (rok (by decide)) hl.1 (Nat.le_of_ble_eq_true rfl) dX8_areEnds_30 ?_
    refine ly_ifeq (tgt := 40) S bI_e1 bI_e2 dX8_areEnds_33 (by decide) (fun h11 => ?_) (fun h11 => ?_)
    · skip
      refine lv_iconst (v := nI 0) S.1 S.2.1 dX8_areEnds_40 (by decide) ?_
      refine ly_top (z := bI (Nat.testBit (op ci) 0 || Nat.testBit (en (ci % 2 * 2)) (lenF w (op ci) j 0))) (by rw [show (Nat.testBit (op ci) 0 || Nat.testBit (en (ci % 2 * 2)) (lenF w (op ci) j 0)) = false by simp [h8, h11]]; rfl) ?_
      refine lv_istore_n (lv' := [(3, .int (bI (Nat.testBit (op ci) 0 || Nat.testBit (en (ci % 2 * 2)) (lenF w (op ci) j 0)))), (0, .ref (a 0)), (1, .int (nI ci)), (2, .int (nI j))]) S.1 S.2.1 dX8_areEnds_41 rfl hl (by decide) rfl (fun ls hl => ?_)
      exact J42  _ (lv_sub hl [1, 2, 3, 0] rfl)
    · skip
      refine lv_iconst (v := nI 1) S.1 S.2.1 dX8_areEnds_36 (by decide) ?_
      refine lv_goto (tgt := 41) S.1 S.2.1 dX8_areEnds_37 (by decide) ?_
      refine ly_top (z := bI (Nat.testBit (op ci) 0 || Nat.testBit (en (ci % 2 * 2)) (lenF w (op ci) j 0))) (by rw [show (Nat.testBit (op ci) 0 || Nat.testBit (en (ci % 2 * 2)) (lenF w (op ci) j 0)) = true by simp [h8, h11]]; rfl) ?_
      refine lv_istore_n (lv' := [(3, .int (bI (Nat.testBit (op ci) 0 || Nat.testBit (en (ci % 2 * 2)) (lenF w (op ci) j 0)))), (0, .ref (a 0)), (1, .int (nI ci)), (2, .int (nI j))]) S.1 S.2.1 dX8_areEnds_41 rfl hl (by decide) rfl (fun ls hl => ?_)
      exact J42  _ (lv_sub hl [1, 2, 3, 0] rfl)
theorem kX8_areEnds {p : Program} {l : Launch} {e : Env} {R : Room} {s : State} {m : MethodId} {args : Array Value} {below : List Frame} {meth : Method} {c : Code} {H : Heap} {locs : List Loc} {cells slots : Nat} {Q : State → Prop} {cc : ByteArray} {nL index pc : Nat} {own : String} {ls : Array Slot} {rest : List Value} {D : va_G} {K : Nat → ClassId} {a : Nat → Nat} {w n lap : Nat} {op mu ba la en : Nat → Nat} {pr : Nat → Option Nat} {sc : MSc} {ci : Nat} {j : Nat} (S : CallFix p m c cc nL s args lw_tb own) (hI : PI D K (mW K a w n lap op mu ba la en pr sc) s H) (hG : GOK w n lap op mu ba la en pr) (hci : ci < 8) (hj : j < 1024) (hlink : Cond.methodLink own index yX8_areEnds ∈ lw_tb) (hR : RO 3 R cells slots) (hsz : ls.size = nL) (hW : (rest.map fun v => v.category).sum ≤ 8) (hdg : decode cc pc = .ok (.invokevirtual index, 3)) (kk : W p l e R s m args below meth c H locs cells slots Q (F0 m (pc + 3) ls (.int (bI (enOk w (op ci) j (en (ci % 2 * 2)) (en (ci % 2 * 2 + 1)))) :: rest))) : W p l e R s m args below meth c H locs cells slots Q (F0 m pc ls (.int (nI j) :: .int (nI ci) :: .ref (a 0) :: rest)) :=
  kV (As := [.int (nI ci), .int (nI j)]) (b := a 0) S (mX8_areEnds l hG hci hj) hlink tw_746 tw_27 tw_50 tw_747 (by show _ ∧ _ ∧ _ = some 2; decide +kernel) (by decide) hR blP (piU hI) (va_recv hI.2 hI.1 (ci := 8) (q0 := 0) rfl rfl) hsz rfl hW hdg kk

set_option maxHeartbeats 4000000 in
set_option maxRecDepth 100000 in
theorem mX8_breaks (l : Launch) {D : va_G} {K : Nat → ClassId} {a : Nat → Nat} {w n lap : Nat} {op mu ba la en : Nat → Nat} {pr : Nat → Option Nat} {sc : MSc} {ci : Nat} {x : Nat} {L : Nat} {r : Nat} (hG : GOK w n lap op mu ba la en pr) (hci : ci < 8) (hL : 1 ≤ L) (hx : x + L ≤ 10) (hr9 : r < 2 ^ 31) : Met l yX8_breaks (TWd yX8_breaks cX8_breaks 8 (some .boolean)) (rmk 1) (va_Pc [.ref (a 0), .int (nI ci), .int (nI x), .int (nI L), .int (nI r)] (fun U => PI D K (mW K a w n lap op mu ba la en pr sc) U U.heap)) (QcRead (bI (brk pr (bl op ci) x L r))) 0 0 (fun _ => False) := by
  refine mt_of (by decide +kernel) (Nat.le_of_ble_eq_true rfl) ?_
  intro p e s m below meth c S hr hlk hI ls hl
  have S : CallFix p m c cX8_breaks 8 s ([.ref (a 0), .int (nI ci), .int (nI x), .int (nI L), .int (nI r)] : List Value).toArray lw_tb RX8 := S
  have hl : lv_has ls 8 [(0, .ref (a 0)), (1, .int (nI ci)), (2, .int (nI x)), (3, .int (nI L)), (4, .int (nI r))] := hl
  obtain ⟨gw1, gw2, gn, gl1, gl2, gop, gmu, gba, gla, gen, gpr, gop2, gmu2, gba2, gla2, gme, gbe, gle, gee⟩ := id hG
  have o1 := bl_lt gop ci
  have J18 : ∀ (ls : Array Slot), lv_has ls 8 [(0, .ref (a 0)), (1, .int (nI ci)), (2, .int (nI x)), (3, .int (nI L)), (4, .int (nI r)), (5, .int (nI (bl op ci)))] → W p l e (rmk 1) s m ([.ref (a 0), .int (nI ci), .int (nI x), .int (nI L), .int (nI r)] : List Value).toArray below meth c s.heap [] 0 0 (MQ below (QcRead (bI (brk pr (bl op ci) x L r))) ([.ref (a 0), .int (nI ci), .int (nI x), .int (nI L), .int (nI r)] : List Value).toArray s 0 0 (fun _ => False)) (F0 m 18 ls []) := by
    intro  ls hl
    refine lv_iload S.1 S.2.1 dX8_breaks_18 (lv_at hl 4 rfl) ?_
    refine lv_iconst (v := nI 3) S.1 S.2.1 dX8_breaks_20 (by decide) ?_
    refine ly_cmne (tgt := 38) S (nI_e2 (by omega) (by omega)) (nI_e1 (by omega) (by omega)) dX8_breaks_21 (by decide) (fun h1 => ?_) (fun h1 => ?_)
    · skip
      refine lv_iload S.1 S.2.1 dX8_breaks_38 (lv_at hl 4 rfl) ?_
      refine lv_iconst (v := nI 5) S.1 S.2.1 dX8_breaks_40 (by decide) ?_
      refine ly_cmne (tgt := 72) S (nI_e2 (by omega) (by omega)) (nI_e1 (by omega) (by omega)) dX8_breaks_41 (by decide) (fun h2 => ?_) (fun h2 => ?_)
      · skip
        refine lv_iconst (v := nI 0) S.1 S.2.1 dX8_breaks_72 (by decide) ?_
        refine ly_top (z := bI (anyN (fun q => Nat.testBit (bl op ci) (x + q)) 0)) (by rw [show (anyN (fun q => Nat.testBit (bl op ci) (x + q)) 0) = false by simp [anyN, h1, h2]]; rfl) ?_
        refine lv_istore (lv' := [(6, .int (bI (anyN (fun q => Nat.testBit (bl op ci) (x + q)) 0))), (0, .ref (a 0)), (1, .int (nI ci)), (2, .int (nI x)), (3, .int (nI L)), (4, .int (nI r)), (5, .int (nI (bl op ci)))]) S.1 S.2.1 dX8_breaks_73 hl (by decide) rfl (fun ls hl => ?_)
        refine lv_iconst (v := nI 0) S.1 S.2.1 dX8_breaks_75 (by decide) ?_
        refine lv_istore (lv' := [(7, .int (nI 0)), (6, .int (bI (anyN (fun q => Nat.testBit (bl op ci) (x + q)) 0))), (0, .ref (a 0)), (1, .int (nI ci)), (2, .int (nI x)), (3, .int (nI L)), (4, .int (nI r)), (5, .int (nI (bl op ci)))]) S.1 S.2.1 dX8_breaks_76 hl (by decide) rfl (fun ls hl => ?_)
        have L78 : ∀ (f78 : Nat) (k : Nat), (k ≤ L) → L - k < f78 → ∀ (ls : Array Slot), lv_has ls 8 [(0, .ref (a 0)), (1, .int (nI ci)), (2, .int (nI x)), (3, .int (nI L)), (4, .int (nI r)), (5, .int (nI (bl op ci))), (6, .int (bI (anyN (fun q => Nat.testBit (bl op ci) (x + q)) k))), (7, .int (nI k))] → W p l e (rmk 1) s m ([.ref (a 0), .int (nI ci), .int (nI x), .int (nI L), .int (nI r)] : List Value).toArray below meth c s.heap [] 0 0 (MQ below (QcRead (bI (brk pr (bl op ci) x L r))) ([.ref (a 0), .int (nI ci), .int (nI x), .int (nI L), .int (nI r)] : List Value).toArray s 0 0 (fun _ => False)) (F0 m 78 ls []) := by
          intro f78
          induction f78 with
          | zero =>
            intro k i2 hm
            exact absurd hm (Nat.not_lt_zero _)
          | succ f78 ih78 =>
            intro k i2 hm78 ls hl
            refine lv_iload S.1 S.2.1 dX8_breaks_78 (lv_at hl 7 rfl) ?_
            refine lv_iload_n S.1 S.2.1 dX8_breaks_80 rfl (lv_at hl 3 rfl) ?_
            refine ly_cmge (tgt := 114) S (nI_le1 (by omega) (by omega)) (nI_le2 (by omega) (by omega)) dX8_breaks_81 (by decide) (fun h3 => ?_) (fun h3 => ?_)
            · skip
              have ek : k = L := by omega
              subst ek
              refine lv_iload_n S.1 S.2.1 dX8_breaks_114 rfl (lv_at hl 3 rfl) ?_
              refine lv_iconst (v := nI 4) S.1 S.2.1 dX8_breaks_115 (by decide) ?_
              refine ly_cmle (tgt := 128) S (nI_le1 (by omega) (by omega)) (nI_le2 (by omega) (by omega)) dX8_breaks_116 (by decide) (fun h4 => ?_) (fun h4 => ?_)
              · skip
                refine lv_iconst (v := nI 0) S.1 S.2.1 dX8_breaks_128 (by decide) ?_
                exact rt_z0 S hr hlk (by simp [brk, h1, h2, h3, h4]; omega) dX8_breaks_129
              · skip
                refine lv_iload S.1 S.2.1 dX8_breaks_119 (lv_at hl 6 rfl) ?_
                refine ly_ifne (tgt := 128) S bI_e2 bI_e1 dX8_breaks_121 (by decide) (fun h5 => ?_) (fun h5 => ?_)
                · skip
                  refine lv_iconst (v := nI 0) S.1 S.2.1 dX8_breaks_128 (by decide) ?_
                  exact rt_z0 S hr hlk (by simp [brk, h1, h2, h3, h4, h5]) dX8_breaks_129
                · skip
                  refine lv_iconst (v := nI 1) S.1 S.2.1 dX8_breaks_124 (by decide) ?_
                  refine lv_goto (tgt := 129) S.1 S.2.1 dX8_breaks_125 (by decide) ?_
                  exact rt_z1 S hr hlk (by simp [brk, h1, h2, h3, h4, h5]) dX8_breaks_129
            · skip
              refine lv_iload S.1 S.2.1 dX8_breaks_84 (lv_at hl 6 rfl) ?_
              refine ly_ifne (tgt := 101) S bI_e2 bI_e1 dX8_breaks_86 (by decide) (fun h6 => ?_) (fun h6 => ?_)
              · skip
                refine lv_iconst (v := nI 1) S.1 S.2.1 dX8_breaks_101 (by decide) ?_
                refine lv_goto (tgt := 106) S.1 S.2.1 dX8_breaks_102 (by decide) ?_
                refine ly_top (z := bI (anyN (fun q => Nat.testBit (bl op ci) (x + q)) (k + 1))) (by rw [show (anyN (fun q => Nat.testBit (bl op ci) (x + q)) (k + 1)) = true by simp [anyN, h1, h2, h3, h6]]; rfl) ?_
                refine lv_istore (lv' := [(6, .int (bI (anyN (fun q => Nat.testBit (bl op ci) (x + q)) (k + 1)))), (0, .ref (a 0)), (1, .int (nI ci)), (2, .int (nI x)), (3, .int (nI L)), (4, .int (nI r)), (5, .int (nI (bl op ci))), (7, .int (nI k))]) S.1 S.2.1 dX8_breaks_106 hl (by decide) rfl (fun ls hl => ?_)
                refine lv_iinc (v := nI (k + 1)) (lv' := [(7, .int (nI (k + 1))), (6, .int (bI (anyN (fun q => Nat.testBit (bl op ci) (x + q)) (k + 1)))), (0, .ref (a 0)), (1, .int (nI ci)), (2, .int (nI x)), (3, .int (nI L)), (4, .int (nI r)), (5, .int (nI (bl op ci)))]) S.1 S.2.1 dX8_breaks_108 hl (k := 7) rfl (nJ_in _ _) (by decide) rfl (fun ls hl => ?_)
                refine lv_goto (tgt := 78) S.1 S.2.1 dX8_breaks_111 (by decide) ?_
                exact ih78 (k + 1) (by omega) (by omega) _ (lv_sub hl [2, 3, 4, 5, 6, 7, 1, 0] rfl)
              · skip
                refine lv_iload S.1 S.2.1 dX8_breaks_89 (lv_at hl 5 rfl) ?_
                refine lv_iload_n S.1 S.2.1 dX8_breaks_91 rfl (lv_at hl 2 rfl) ?_
                refine lv_iload S.1 S.2.1 dX8_breaks_92 (lv_at hl 7 rfl) ?_
                refine lv_iadd S.1 S.2.1 dX8_breaks_94 ?_
                refine ly_top (z := nI (x + k)) (nI_add _ _) ?_
                refine kX8_has S (by omega) (by omega) tw_705 (rok (by decide)) hl.1 (Nat.le_of_ble_eq_true rfl) dX8_breaks_95 ?_
                refine ly_ifeq (tgt := 105) S bI_e1 bI_e2 dX8_breaks_98 (by decide) (fun h7 => ?_) (fun h7 => ?_)
                · skip
                  refine lv_iconst (v := nI 0) S.1 S.2.1 dX8_breaks_105 (by decide) ?_
                  refine ly_top (z := bI (anyN (fun q => Nat.testBit (bl op ci) (x + q)) (k + 1))) (by rw [show (anyN (fun q => Nat.testBit (bl op ci) (x + q)) (k + 1)) = false by simp [anyN, h1, h2, h3, h6, h7]]; rfl) ?_
                  refine lv_istore (lv' := [(6, .int (bI (anyN (fun q => Nat.testBit (bl op ci) (x + q)) (k + 1)))), (0, .ref (a 0)), (1, .int (nI ci)), (2, .int (nI x)), (3, .int (nI L)), (4, .int (nI r)), (5, .int (nI (bl op ci))), (7, .int (nI k))]) S.1 S.2.1 dX8_breaks_106 hl (by decide) rfl (fun ls hl => ?_)
                  refine lv_iinc (v := nI (k + 1)) (lv' := [(7, .int (nI (k + 1))), (6, .int (bI (anyN (fun q => Nat.testBit (bl op ci) (x + q)) (k + 1)))), (0, .ref (a 0)), (1, .int (nI ci)), (2, .int (nI x)), (3, .int (nI L)), (4, .int (nI r)), (5, .int (nI (bl op ci)))]) S.1 S.2.1 dX8_breaks_108 hl (k := 7) rfl (nJ_in _ _) (by decide) rfl (fun ls hl => ?_)
                  refine lv_goto (tgt := 78) S.1 S.2.1 dX8_breaks_111 (by decide) ?_
                  exact ih78 (k + 1) (by omega) (by omega) _ (lv_sub hl [2, 3, 4, 5, 6, 7, 1, 0] rfl)
                · skip
                  refine lv_iconst (v := nI 1) S.1 S.2.1 dX8_breaks_101 (by decide) ?_
                  refine lv_goto (tgt := 106) S.1 S.2.1 dX8_breaks_102 (by decide) ?_
                  refine ly_top (z := bI (anyN (fun q => Nat.testBit (bl op ci) (x + q)) (k + 1))) (by rw [show (anyN (fun q => Nat.testBit (bl op ci) (x + q)) (k + 1)) = true by simp [anyN, h1, h2, h3, h6, h7]]; rfl) ?_
                  refine lv_istore (lv' := [(6, .int (bI (anyN (fun q => Nat.testBit (bl op ci) (x + q)) (k + 1)))), (0, .ref (a 0)), (1, .int (nI ci)), (2, .int (nI x)), (3, .int (nI L)), (4, .int (nI r)), (5, .int (nI (bl op ci))), (7, .int (nI k))]) S.1 S.2.1 dX8_breaks_106 hl (by decide) rfl (fun ls hl => ?_)
                  refine lv_iinc (v := nI (k + 1)) (lv' := [(7, .int (nI (k + 1))), (6, .int (bI (anyN (fun q => Nat.testBit (bl op ci) (x + q)) (k + 1)))), (0, .ref (a 0)), (1, .int (nI ci)), (2, .int (nI x)), (3, .int (nI L)), (4, .int (nI r)), (5, .int (nI (bl op ci)))]) S.1 S.2.1 dX8_breaks_108 hl (k := 7) rfl (nJ_in _ _) (by decide) rfl (fun ls hl => ?_)
                  refine lv_goto (tgt := 78) S.1 S.2.1 dX8_breaks_111 (by decide) ?_
                  exact ih78 (k + 1) (by omega) (by omega) _ (lv_sub hl [2, 3, 4, 5, 6, 7, 1, 0] rfl)
        exact L78 _ 0 (by omega) (Nat.lt_succ_self _) _ (lv_sub hl [2, 3, 4, 5, 6, 7, 1, 0] rfl)
      · skip
        refine lv_iload S.1 S.2.1 dX8_breaks_44 (lv_at hl 5 rfl) ?_
        refine lv_iload_n S.1 S.2.1 dX8_breaks_46 rfl (lv_at hl 2 rfl) ?_
        refine kX8_has S (by omega) (by omega) tw_705 (rok (by decide)) hl.1 (Nat.le_of_ble_eq_true rfl) dX8_breaks_47 ?_
        refine ly_ifne (tgt := 66) S bI_e2 bI_e1 dX8_breaks_50 (by decide) (fun h8 => ?_) (fun h8 => ?_)
        · skip
          refine lv_iconst (v := nI 1) S.1 S.2.1 dX8_breaks_66 (by decide) ?_
          refine lv_goto (tgt := 71) S.1 S.2.1 dX8_breaks_67 (by decide) ?_
          exact rt_z1 S hr hlk (by simp [brk, h1, h2, h8]) dX8_breaks_71
        · skip
          refine lv_iload S.1 S.2.1 dX8_breaks_53 (lv_at hl 5 rfl) ?_
          refine lv_iload_n S.1 S.2.1 dX8_breaks_55 rfl (lv_at hl 2 rfl) ?_
          refine lv_iload_n S.1 S.2.1 dX8_breaks_56 rfl (lv_at hl 3 rfl) ?_
          refine lv_iadd S.1 S.2.1 dX8_breaks_57 ?_
          refine ly_top (z := nI (x + L)) (nI_add _ _) ?_
          refine lv_iconst (v := nI 1) S.1 S.2.1 dX8_breaks_58 (by decide) ?_
          refine lv_isub S.1 S.2.1 dX8_breaks_59 ?_
          refine ly_top (z := nI ((x + L) - 1)) (pk_sub (by omega)) ?_
          refine kX8_has S (by omega) (by omega) tw_705 (rok (by decide)) hl.1 (Nat.le_of_ble_eq_true rfl) dX8_breaks_60 ?_
          refine ly_ifeq (tgt := 70) S bI_e1 bI_e2 dX8_breaks_63 (by decide) (fun h9 => ?_) (fun h9 => ?_)
          · skip
            refine lv_iconst (v := nI 0) S.1 S.2.1 dX8_breaks_70 (by decide) ?_
            exact rt_z0 S hr hlk (by simp [brk, h1, h2, h8, h9]) dX8_breaks_71
          · skip
            refine lv_iconst (v := nI 1) S.1 S.2.1 dX8_breaks_66 (by decide) ?_
            refine lv_goto (tgt := 71) S.1 S.2.1 dX8_breaks_67 (by decide) ?_
            exact rt_z1 S hr hlk (by simp [brk, h1, h2, h8, h9]) dX8_breaks_71
    · skip
      refine lv_aload_n S.1 S.2.1 dX8_breaks_24 rfl (lv_at hl 0 rfl) ?_
      refine lv_iload_n S.1 S.2.1 dX8_breaks_25 rfl (lv_at hl 3 rfl) ?_
      refine kX8_isPriced S hI hG (by omega) (by omega) tw_740 (rok (by decide)) hl.1 (Nat.le_of_ble_eq_true rfl) dX8_breaks_26 ?_
      refine ly_ifne (tgt := 36) S bI_e2 bI_e1 dX8_breaks_29 (by decide) (fun h10 => ?_) (fun h10 => ?_)
      · skip
        refine lv_iconst (v := nI 0) S.1 S.2.1 dX8_breaks_36 (by decide) ?_
        exact rt_z0 S hr hlk (by simp [brk, h1, h10]) dX8_breaks_37
      · skip
        refine lv_iconst (v := nI 1) S.1 S.2.1 dX8_breaks_32 (by decide) ?_
        refine lv_goto (tgt := 37) S.1 S.2.1 dX8_breaks_33 (by decide) ?_
        exact rt_z1 S hr hlk (by simp [brk, h1, h10]) dX8_breaks_37
  refine lv_iload_n S.1 S.2.1 dX8_breaks_0 rfl (lv_at hl 1 rfl) ?_
  refine ly_ifne (tgt := 8) S (nI_z2 (by omega)) (nI_z1 (by omega)) dX8_breaks_1 (by decide) (fun h11 => ?_) (fun h11 => ?_)
  · skip
    refine lv_aload_n S.1 S.2.1 dX8_breaks_8 rfl (lv_at hl 0 rfl) ?_
    refine g8 S hI 0 rfl 2 (by decide) tw_609 rfl dX8_breaks_9 ?_
    refine lv_iload_n S.1 S.2.1 dX8_breaks_12 rfl (lv_at hl 1 rfl) ?_
    refine lv_iconst (v := nI 1) S.1 S.2.1 dX8_breaks_13 (by decide) ?_
    refine lv_isub S.1 S.2.1 dX8_breaks_14 ?_
    refine ly_top (z := nI (ci - 1)) (pk_sub (by omega)) ?_
    refine ly_iald (v := (nI (op (ci - 1)))) S hI 1 rfl (by omega) (by decide) rfl dX8_breaks_15 ?_
    refine ly_top (z := nI (bl op ci)) (by simp [bl, h11]) ?_
    refine lv_istore (lv' := [(5, .int (nI (bl op ci))), (0, .ref (a 0)), (1, .int (nI ci)), (2, .int (nI x)), (3, .int (nI L)), (4, .int (nI r))]) S.1 S.2.1 dX8_breaks_16 hl (by decide) rfl (fun ls hl => ?_)
    exact J18  _ (lv_sub hl [1, 2, 3, 4, 5, 0] rfl)
  · skip
    refine lv_iconst (v := nI 0) S.1 S.2.1 dX8_breaks_4 (by decide) ?_
    refine lv_goto (tgt := 16) S.1 S.2.1 dX8_breaks_5 (by decide) ?_
    refine ly_top (z := nI (bl op ci)) (by simp [bl, h11]) ?_
    refine lv_istore (lv' := [(5, .int (nI (bl op ci))), (0, .ref (a 0)), (1, .int (nI ci)), (2, .int (nI x)), (3, .int (nI L)), (4, .int (nI r))]) S.1 S.2.1 dX8_breaks_16 hl (by decide) rfl (fun ls hl => ?_)
    exact J18  _ (lv_sub hl [1, 2, 3, 4, 5, 0] rfl)
theorem kX8_breaks {p : Program} {l : Launch} {e : Env} {R : Room} {s : State} {m : MethodId} {args : Array Value} {below : List Frame} {meth : Method} {c : Code} {H : Heap} {locs : List Loc} {cells slots : Nat} {Q : State → Prop} {cc : ByteArray} {nL index pc : Nat} {own : String} {ls : Array Slot} {rest : List Value} {D : va_G} {K : Nat → ClassId} {a : Nat → Nat} {w n lap : Nat} {op mu ba la en : Nat → Nat} {pr : Nat → Option Nat} {sc : MSc} {ci : Nat} {x : Nat} {L : Nat} {r : Nat} (S : CallFix p m c cc nL s args lw_tb own) (hI : PI D K (mW K a w n lap op mu ba la en pr sc) s H) (hG : GOK w n lap op mu ba la en pr) (hci : ci < 8) (hL : 1 ≤ L) (hx : x + L ≤ 10) (hr9 : r < 2 ^ 31) (hlink : Cond.methodLink own index yX8_breaks ∈ lw_tb) (hR : RO 1 R cells slots) (hsz : ls.size = nL) (hW : (rest.map fun v => v.category).sum ≤ 8) (hdg : decode cc pc = .ok (.invokevirtual index, 3)) (kk : W p l e R s m args below meth c H locs cells slots Q (F0 m (pc + 3) ls (.int (bI (brk pr (bl op ci) x L r)) :: rest))) : W p l e R s m args below meth c H locs cells slots Q (F0 m pc ls (.int (nI r) :: .int (nI L) :: .int (nI x) :: .int (nI ci) :: .ref (a 0) :: rest)) :=
  kV (As := [.int (nI ci), .int (nI x), .int (nI L), .int (nI r)]) (b := a 0) S (mX8_breaks l hG hci hL hx hr9) hlink tw_738 tw_25 tw_50 tw_739 (by show _ ∧ _ ∧ _ = some 4; decide +kernel) (by decide) hR blP (piU hI) (va_recv hI.2 hI.1 (ci := 8) (q0 := 0) rfl rfl) hsz rfl hW hdg kk

set_option maxHeartbeats 4000000 in
set_option maxRecDepth 100000 in
theorem mX8_somePiece (l : Launch) {D : va_G} {K : Nat → ClassId} {a : Nat → Nat} {w n lap : Nat} {op mu ba la en : Nat → Nat} {pr : Nat → Option Nat} {sc : MSc} {ci : Nat} {j : Nat} {r : Nat} (hG : GOK w n lap op mu ba la en pr) (hci : ci < 8) (hj : j < 1024) (hr9 : r < 2 ^ 31) : Met l yX8_somePiece (TWd yX8_somePiece cX8_somePiece 6 (some .boolean)) (rmk 3) (va_Pc [.ref (a 0), .int (nI ci), .int (nI j), .int (nI r)] (fun U => PI D K (mW K a w n lap op mu ba la en pr sc) U U.heap)) (QcRead (bI (anyN (spc pr w (op ci) (bl op ci) j r) w))) 0 0 (fun _ => False) := by
  refine mt_of (by decide +kernel) (Nat.le_of_ble_eq_true rfl) ?_
  intro p e s m below meth c S hr hlk hI ls hl
  have S : CallFix p m c cX8_somePiece 6 s ([.ref (a 0), .int (nI ci), .int (nI j), .int (nI r)] : List Value).toArray lw_tb RX8 := S
  have hl : lv_has ls 6 [(0, .ref (a 0)), (1, .int (nI ci)), (2, .int (nI j)), (3, .int (nI r))] := hl
  obtain ⟨gw1, gw2, gn, gl1, gl2, gop, gmu, gba, gla, gen, gpr, gop2, gmu2, gba2, gla2, gme, gbe, gle, gee⟩ := id hG
  refine lv_iconst (v := nI 0) S.1 S.2.1 dX8_somePiece_0 (by decide) ?_
  refine ly_top (z := bI (anyN (spc pr w (op ci) (bl op ci) j r) 0)) (by rw [show (anyN (spc pr w (op ci) (bl op ci) j r) 0) = false by simp [anyN]]; rfl) ?_
  refine lv_istore (lv' := [(4, .int (bI (anyN (spc pr w (op ci) (bl op ci) j r) 0))), (0, .ref (a 0)), (1, .int (nI ci)), (2, .int (nI j)), (3, .int (nI r))]) S.1 S.2.1 dX8_somePiece_1 hl (by decide) rfl (fun ls hl => ?_)
  refine lv_iconst (v := nI 0) S.1 S.2.1 dX8_somePiece_3 (by decide) ?_
  refine lv_istore (lv' := [(5, .int (nI 0)), (4, .int (bI (anyN (spc pr w (op ci) (bl op ci) j r) 0))), (0, .ref (a 0)), (1, .int (nI ci)), (2, .int (nI j)), (3, .int (nI r))]) S.1 S.2.1 dX8_somePiece_4 hl (by decide) rfl (fun ls hl => ?_)
  have L6 : ∀ (f6 : Nat) (k : Nat), (k ≤ w) → w - k < f6 → ∀ (ls : Array Slot), lv_has ls 6 [(0, .ref (a 0)), (1, .int (nI ci)), (2, .int (nI j)), (3, .int (nI r)), (4, .int (bI (anyN (spc pr w (op ci) (bl op ci) j r) k))), (5, .int (nI k))] → W p l e (rmk 3) s m ([.ref (a 0), .int (nI ci), .int (nI j), .int (nI r)] : List Value).toArray below meth c s.heap [] 0 0 (MQ below (QcRead (bI (anyN (spc pr w (op ci) (bl op ci) j r) w))) ([.ref (a 0), .int (nI ci), .int (nI j), .int (nI r)] : List Value).toArray s 0 0 (fun _ => False)) (F0 m 6 ls []) := by
    intro f6
    induction f6 with
    | zero =>
      intro k i2 hm
      exact absurd hm (Nat.not_lt_zero _)
    | succ f6 ih6 =>
      intro k i2 hm6 ls hl
      refine lv_iload S.1 S.2.1 dX8_somePiece_6 (lv_at hl 5 rfl) ?_
      refine lv_aload_n S.1 S.2.1 dX8_somePiece_8 rfl (lv_at hl 0 rfl) ?_
      refine g8 S hI 0 rfl 0 (by decide) tw_607 rfl dX8_somePiece_9 ?_
      refine ly_cmge (tgt := 63) S (nI_le1 (by omega) (by omega)) (nI_le2 (by omega) (by omega)) dX8_somePiece_12 (by decide) (fun h1 => ?_) (fun h1 => ?_)
      · skip
        refine lv_iload S.1 S.2.1 dX8_somePiece_63 (lv_at hl 4 rfl) ?_
        exact rt_z S hr hlk (by rw [show k = w by omega]) dX8_somePiece_65
      · skip
        refine lv_iload S.1 S.2.1 dX8_somePiece_15 (lv_at hl 4 rfl) ?_
        refine ly_ifne (tgt := 50) S bI_e2 bI_e1 dX8_somePiece_17 (by decide) (fun h2 => ?_) (fun h2 => ?_)
        · skip
          refine lv_iconst (v := nI 1) S.1 S.2.1 dX8_somePiece_50 (by decide) ?_
          refine lv_goto (tgt := 55) S.1 S.2.1 dX8_somePiece_51 (by decide) ?_
          refine ly_top (z := bI (anyN (spc pr w (op ci) (bl op ci) j r) (k + 1))) (by rw [show (anyN (spc pr w (op ci) (bl op ci) j r) (k + 1)) = true by simp [anyN, spc, h1, h2]]; rfl) ?_
          refine lv_istore (lv' := [(4, .int (bI (anyN (spc pr w (op ci) (bl op ci) j r) (k + 1)))), (0, .ref (a 0)), (1, .int (nI ci)), (2, .int (nI j)), (3, .int (nI r)), (5, .int (nI k))]) S.1 S.2.1 dX8_somePiece_55 hl (by decide) rfl (fun ls hl => ?_)
          refine lv_iinc (v := nI (k + 1)) (lv' := [(5, .int (nI (k + 1))), (4, .int (bI (anyN (spc pr w (op ci) (bl op ci) j r) (k + 1)))), (0, .ref (a 0)), (1, .int (nI ci)), (2, .int (nI j)), (3, .int (nI r))]) S.1 S.2.1 dX8_somePiece_57 hl (k := 5) rfl (nJ_in _ _) (by decide) rfl (fun ls hl => ?_)
          refine lv_goto (tgt := 6) S.1 S.2.1 dX8_somePiece_60 (by decide) ?_
          exact ih6 (k + 1) (by omega) (by omega) _ (lv_sub hl [2, 3, 4, 5, 1, 0] rfl)
        · skip
          refine lv_aload_n S.1 S.2.1 dX8_somePiece_20 rfl (lv_at hl 0 rfl) ?_
          refine lv_iload_n S.1 S.2.1 dX8_somePiece_21 rfl (lv_at hl 1 rfl) ?_
          refine lv_iload_n S.1 S.2.1 dX8_somePiece_22 rfl (lv_at hl 2 rfl) ?_
          refine lv_iload S.1 S.2.1 dX8_somePiece_23 (lv_at hl 5 rfl) ?_
          refine kX8_begins S hI hG (by omega) (by omega) (by omega) tw_728 (rok (by decide)) hl.1 (Nat.le_of_ble_eq_true rfl) dX8_somePiece_25 ?_
          refine ly_ifeq (tgt := 54) S bI_e1 bI_e2 dX8_somePiece_28 (by decide) (fun h3 => ?_) (fun h3 => ?_)
          · skip
            refine lv_iconst (v := nI 0) S.1 S.2.1 dX8_somePiece_54 (by decide) ?_
            refine ly_top (z := bI (anyN (spc pr w (op ci) (bl op ci) j r) (k + 1))) (by rw [show (anyN (spc pr w (op ci) (bl op ci) j r) (k + 1)) = false by simp [anyN, spc, h1, h2, h3]]; rfl) ?_
            refine lv_istore (lv' := [(4, .int (bI (anyN (spc pr w (op ci) (bl op ci) j r) (k + 1)))), (0, .ref (a 0)), (1, .int (nI ci)), (2, .int (nI j)), (3, .int (nI r)), (5, .int (nI k))]) S.1 S.2.1 dX8_somePiece_55 hl (by decide) rfl (fun ls hl => ?_)
            refine lv_iinc (v := nI (k + 1)) (lv' := [(5, .int (nI (k + 1))), (4, .int (bI (anyN (spc pr w (op ci) (bl op ci) j r) (k + 1)))), (0, .ref (a 0)), (1, .int (nI ci)), (2, .int (nI j)), (3, .int (nI r))]) S.1 S.2.1 dX8_somePiece_57 hl (k := 5) rfl (nJ_in _ _) (by decide) rfl (fun ls hl => ?_)
            refine lv_goto (tgt := 6) S.1 S.2.1 dX8_somePiece_60 (by decide) ?_
            exact ih6 (k + 1) (by omega) (by omega) _ (lv_sub hl [2, 3, 4, 5, 1, 0] rfl)
          · skip
            refine lv_aload_n S.1 S.2.1 dX8_somePiece_31 rfl (lv_at hl 0 rfl) ?_
            refine lv_iload_n S.1 S.2.1 dX8_somePiece_32 rfl (lv_at hl 1 rfl) ?_
            refine lv_iload S.1 S.2.1 dX8_somePiece_33 (lv_at hl 5 rfl) ?_
            refine lv_aload_n S.1 S.2.1 dX8_somePiece_35 rfl (lv_at hl 0 rfl) ?_
            refine lv_iload_n S.1 S.2.1 dX8_somePiece_36 rfl (lv_at hl 1 rfl) ?_
            refine lv_iload_n S.1 S.2.1 dX8_somePiece_37 rfl (lv_at hl 2 rfl) ?_
            refine lv_iload S.1 S.2.1 dX8_somePiece_38 (lv_at hl 5 rfl) ?_
            refine kX8_lengthFrom S hI hG (by omega) (by omega) (by omega) tw_732 (rok (by decide)) hl.1 (Nat.le_of_ble_eq_true rfl) dX8_somePiece_40 ?_
            have b4 : 1 ≤ lenF w (op ci) j k := lenF_pos
            have b5 : k + lenF w (op ci) j k ≤ w := lenF_le (by omega)
            refine lv_iload_n S.1 S.2.1 dX8_somePiece_43 rfl (lv_at hl 3 rfl) ?_
            refine kX8_breaks S hI hG (by omega) (by omega) (by omega) (by omega) tw_736 (rok (by decide)) hl.1 (Nat.le_of_ble_eq_true rfl) dX8_somePiece_44 ?_
            refine ly_ifeq (tgt := 54) S bI_e1 bI_e2 dX8_somePiece_47 (by decide) (fun h6 => ?_) (fun h6 => ?_)
            · skip
              refine lv_iconst (v := nI 0) S.1 S.2.1 dX8_somePiece_54 (by decide) ?_
              refine ly_top (z := bI (anyN (spc pr w (op ci) (bl op ci) j r) (k + 1))) (by rw [show (anyN (spc pr w (op ci) (bl op ci) j r) (k + 1)) = false by simp [anyN, spc, h1, h2, h3, h6]]; rfl) ?_
              refine lv_istore (lv' := [(4, .int (bI (anyN (spc pr w (op ci) (bl op ci) j r) (k + 1)))), (0, .ref (a 0)), (1, .int (nI ci)), (2, .int (nI j)), (3, .int (nI r)), (5, .int (nI k))]) S.1 S.2.1 dX8_somePiece_55 hl (by decide) rfl (fun ls hl => ?_)
              refine lv_iinc (v := nI (k + 1)) (lv' := [(5, .int (nI (k + 1))), (4, .int (bI (anyN (spc pr w (op ci) (bl op ci) j r) (k + 1)))), (0, .ref (a 0)), (1, .int (nI ci)), (2, .int (nI j)), (3, .int (nI r))]) S.1 S.2.1 dX8_somePiece_57 hl (k := 5) rfl (nJ_in _ _) (by decide) rfl (fun ls hl => ?_)
              refine lv_goto (tgt := 6) S.1 S.2.1 dX8_somePiece_60 (by decide) ?_
              exact ih6 (k + 1) (by omega) (by omega) _ (lv_sub hl [2, 3, 4, 5, 1, 0] rfl)
            · skip
              refine lv_iconst (v := nI 1) S.1 S.2.1 dX8_somePiece_50 (by decide) ?_
              refine lv_goto (tgt := 55) S.1 S.2.1 dX8_somePiece_51 (by decide) ?_
              refine ly_top (z := bI (anyN (spc pr w (op ci) (bl op ci) j r) (k + 1))) (by rw [show (anyN (spc pr w (op ci) (bl op ci) j r) (k + 1)) = true by simp [anyN, spc, h1, h2, h3, h6]]; rfl) ?_
              refine lv_istore (lv' := [(4, .int (bI (anyN (spc pr w (op ci) (bl op ci) j r) (k + 1)))), (0, .ref (a 0)), (1, .int (nI ci)), (2, .int (nI j)), (3, .int (nI r)), (5, .int (nI k))]) S.1 S.2.1 dX8_somePiece_55 hl (by decide) rfl (fun ls hl => ?_)
              refine lv_iinc (v := nI (k + 1)) (lv' := [(5, .int (nI (k + 1))), (4, .int (bI (anyN (spc pr w (op ci) (bl op ci) j r) (k + 1)))), (0, .ref (a 0)), (1, .int (nI ci)), (2, .int (nI j)), (3, .int (nI r))]) S.1 S.2.1 dX8_somePiece_57 hl (k := 5) rfl (nJ_in _ _) (by decide) rfl (fun ls hl => ?_)
              refine lv_goto (tgt := 6) S.1 S.2.1 dX8_somePiece_60 (by decide) ?_
              exact ih6 (k + 1) (by omega) (by omega) _ (lv_sub hl [2, 3, 4, 5, 1, 0] rfl)
  exact L6 _ 0 (by omega) (Nat.lt_succ_self _) _ (lv_sub hl [2, 3, 4, 5, 1, 0] rfl)
theorem kX8_somePiece {p : Program} {l : Launch} {e : Env} {R : Room} {s : State} {m : MethodId} {args : Array Value} {below : List Frame} {meth : Method} {c : Code} {H : Heap} {locs : List Loc} {cells slots : Nat} {Q : State → Prop} {cc : ByteArray} {nL index pc : Nat} {own : String} {ls : Array Slot} {rest : List Value} {D : va_G} {K : Nat → ClassId} {a : Nat → Nat} {w n lap : Nat} {op mu ba la en : Nat → Nat} {pr : Nat → Option Nat} {sc : MSc} {ci : Nat} {j : Nat} {r : Nat} (S : CallFix p m c cc nL s args lw_tb own) (hI : PI D K (mW K a w n lap op mu ba la en pr sc) s H) (hG : GOK w n lap op mu ba la en pr) (hci : ci < 8) (hj : j < 1024) (hr9 : r < 2 ^ 31) (hlink : Cond.methodLink own index yX8_somePiece ∈ lw_tb) (hR : RO 3 R cells slots) (hsz : ls.size = nL) (hW : (rest.map fun v => v.category).sum ≤ 8) (hdg : decode cc pc = .ok (.invokevirtual index, 3)) (kk : W p l e R s m args below meth c H locs cells slots Q (F0 m (pc + 3) ls (.int (bI (anyN (spc pr w (op ci) (bl op ci) j r) w)) :: rest))) : W p l e R s m args below meth c H locs cells slots Q (F0 m pc ls (.int (nI r) :: .int (nI j) :: .int (nI ci) :: .ref (a 0) :: rest)) :=
  kV (As := [.int (nI ci), .int (nI j), .int (nI r)]) (b := a 0) S (mX8_somePiece l hG hci hj hr9) hlink tw_726 tw_22 tw_50 tw_727 (by show _ ∧ _ ∧ _ = some 3; decide +kernel) (by decide) hR blP (piU hI) (va_recv hI.2 hI.1 (ci := 8) (q0 := 0) rfl rfl) hsz rfl hW hdg kk

set_option maxHeartbeats 4000000 in
set_option maxRecDepth 100000 in
theorem mX8_ruleOf (l : Launch) {D : va_G} {K : Nat → ClassId} {a : Nat → Nat} {w n lap : Nat} {op mu ba la en : Nat → Nat} {pr : Nat → Option Nat} {sc : MSc} {ci : Nat} {j : Nat} (hG : GOK w n lap op mu ba la en pr) (hci : ci < 8) (hj : j < 1024) : Met l yX8_ruleOf (TWd yX8_ruleOf cX8_ruleOf 3 (some .int)) (rmk 4) (va_Pc [.ref (a 0), .int (nI ci), .int (nI j)] (fun U => PI D K (mW K a w n lap op mu ba la en pr sc) U U.heap)) (QcRead (nI (ruF pr w (op ci) (bl op ci) (mu ci) (ba ci) (en (ci % 2 * 2)) (en (ci % 2 * 2 + 1)) j))) 0 0 (fun _ => False) := by
  refine mt_of (by decide +kernel) (Nat.le_of_ble_eq_true rfl) ?_
  intro p e s m below meth c S hr hlk hI ls hl
  have S : CallFix p m c cX8_ruleOf 3 s ([.ref (a 0), .int (nI ci), .int (nI j)] : List Value).toArray lw_tb RX8 := S
  have hl : lv_has ls 3 [(0, .ref (a 0)), (1, .int (nI ci)), (2, .int (nI j))] := hl
  obtain ⟨gw1, gw2, gn, gl1, gl2, gop, gmu, gba, gla, gen, gpr, gop2, gmu2, gba2, gla2, gme, gbe, gle, gee⟩ := id hG
  have o1 := gmu ci
  have o2 := gba ci
  refine lv_aload_n S.1 S.2.1 dX8_ruleOf_0 rfl (lv_at hl 0 rfl) ?_
  refine lv_iload_n S.1 S.2.1 dX8_ruleOf_1 rfl (lv_at hl 1 rfl) ?_
  refine lv_iload_n S.1 S.2.1 dX8_ruleOf_2 rfl (lv_at hl 2 rfl) ?_
  refine kX8_isWithin S hI hG (by omega) (by omega) tw_720 (rok (by decide)) hl.1 (Nat.le_of_ble_eq_true rfl) dX8_ruleOf_3 ?_
  refine ly_ifne (tgt := 11) S bI_e2 bI_e1 dX8_ruleOf_6 (by decide) (fun h1 => ?_) (fun h1 => ?_)
  · skip
    refine lv_aload_n S.1 S.2.1 dX8_ruleOf_11 rfl (lv_at hl 0 rfl) ?_
    refine g8 S hI 0 rfl 3 (by decide) tw_610 rfl dX8_ruleOf_12 ?_
    refine lv_iload_n S.1 S.2.1 dX8_ruleOf_15 rfl (lv_at hl 1 rfl) ?_
    refine ly_iald (v := (nI (mu ci))) S hI 2 rfl (by omega) (by decide) rfl dX8_ruleOf_16 ?_
    refine lv_iload_n S.1 S.2.1 dX8_ruleOf_17 rfl (lv_at hl 2 rfl) ?_
    refine lv_iconst (v := (-1)) S.1 S.2.1 dX8_ruleOf_18 (by decide) ?_
    refine lv_ixor S.1 S.2.1 dX8_ruleOf_19 ?_
    refine lv_iand S.1 S.2.1 dX8_ruleOf_20 ?_
    refine ly_top (z := (nI (ndf (mu ci) j))) (nI_andn (by omega) (by omega)) ?_
    refine ly_ifne (tgt := 35) S (nI_z2 (ndf_lt (by omega))) (nI_z1 (ndf_lt (by omega))) dX8_ruleOf_21 (by decide) (fun h2 => ?_) (fun h2 => ?_)
    · skip
      refine lv_iconst (v := nI 2) S.1 S.2.1 dX8_ruleOf_35 (by decide) ?_
      exact rt_i S hr hlk (by simp [ruF, h1, h2]) dX8_ruleOf_36
    · skip
      refine lv_aload_n S.1 S.2.1 dX8_ruleOf_24 rfl (lv_at hl 0 rfl) ?_
      refine g8 S hI 0 rfl 4 (by decide) tw_611 rfl dX8_ruleOf_25 ?_
      refine lv_iload_n S.1 S.2.1 dX8_ruleOf_28 rfl (lv_at hl 1 rfl) ?_
      refine ly_iald (v := (nI (ba ci))) S hI 3 rfl (by omega) (by decide) rfl dX8_ruleOf_29 ?_
      refine lv_iload_n S.1 S.2.1 dX8_ruleOf_30 rfl (lv_at hl 2 rfl) ?_
      refine lv_iand S.1 S.2.1 dX8_ruleOf_31 ?_
      refine ly_top (z := nI ((ba ci) &&& j)) (nI_and (by omega) (by omega)) ?_
      refine ly_ifeq (tgt := 37) S (nI_z1 (Nat.lt_of_le_of_lt Nat.and_le_left (by omega))) (nI_z2 (Nat.lt_of_le_of_lt Nat.and_le_left (by omega))) dX8_ruleOf_32 (by decide) (fun h3 => ?_) (fun h3 => ?_)
      · skip
        refine lv_aload_n S.1 S.2.1 dX8_ruleOf_37 rfl (lv_at hl 0 rfl) ?_
        refine lv_iload_n S.1 S.2.1 dX8_ruleOf_38 rfl (lv_at hl 1 rfl) ?_
        refine lv_iload_n S.1 S.2.1 dX8_ruleOf_39 rfl (lv_at hl 2 rfl) ?_
        refine lv_iconst (v := nI 3) S.1 S.2.1 dX8_ruleOf_40 (by decide) ?_
        refine kX8_somePiece S hI hG (by omega) (by omega) (by omega) tw_724 (rok (by decide)) hl.1 (Nat.le_of_ble_eq_true rfl) dX8_ruleOf_41 ?_
        refine ly_ifeq (tgt := 49) S bI_e1 bI_e2 dX8_ruleOf_44 (by decide) (fun h4 => ?_) (fun h4 => ?_)
        · skip
          refine lv_aload_n S.1 S.2.1 dX8_ruleOf_49 rfl (lv_at hl 0 rfl) ?_
          refine lv_iload_n S.1 S.2.1 dX8_ruleOf_50 rfl (lv_at hl 1 rfl) ?_
          refine lv_iload_n S.1 S.2.1 dX8_ruleOf_51 rfl (lv_at hl 2 rfl) ?_
          refine kX8_areEnds S hI hG (by omega) (by omega) tw_744 (rok (by decide)) hl.1 (Nat.le_of_ble_eq_true rfl) dX8_ruleOf_52 ?_
          refine ly_ifne (tgt := 60) S bI_e2 bI_e1 dX8_ruleOf_55 (by decide) (fun h5 => ?_) (fun h5 => ?_)
          · skip
            refine lv_aload_n S.1 S.2.1 dX8_ruleOf_60 rfl (lv_at hl 0 rfl) ?_
            refine lv_iload_n S.1 S.2.1 dX8_ruleOf_61 rfl (lv_at hl 1 rfl) ?_
            refine lv_iload_n S.1 S.2.1 dX8_ruleOf_62 rfl (lv_at hl 2 rfl) ?_
            refine lv_iconst (v := nI 5) S.1 S.2.1 dX8_ruleOf_63 (by decide) ?_
            refine kX8_somePiece S hI hG (by omega) (by omega) (by omega) tw_724 (rok (by decide)) hl.1 (Nat.le_of_ble_eq_true rfl) dX8_ruleOf_64 ?_
            refine ly_ifeq (tgt := 74) S bI_e1 bI_e2 dX8_ruleOf_67 (by decide) (fun h6 => ?_) (fun h6 => ?_)
            · skip
              refine lv_aload_n S.1 S.2.1 dX8_ruleOf_74 rfl (lv_at hl 0 rfl) ?_
              refine lv_iload_n S.1 S.2.1 dX8_ruleOf_75 rfl (lv_at hl 1 rfl) ?_
              refine lv_iload_n S.1 S.2.1 dX8_ruleOf_76 rfl (lv_at hl 2 rfl) ?_
              refine lv_bipush (v := nI 6) S.1 S.2.1 dX8_ruleOf_77 (by decide) ?_
              refine kX8_somePiece S hI hG (by omega) (by omega) (by omega) tw_724 (rok (by decide)) hl.1 (Nat.le_of_ble_eq_true rfl) dX8_ruleOf_79 ?_
              refine ly_ifeq (tgt := 90) S bI_e1 bI_e2 dX8_ruleOf_82 (by decide) (fun h7 => ?_) (fun h7 => ?_)
              · skip
                refine lv_iconst (v := nI 0) S.1 S.2.1 dX8_ruleOf_90 (by decide) ?_
                exact rt_i S hr hlk (by simp [ruF, h1, h2, h3, h4, h5, h6, h7]) dX8_ruleOf_91
              · skip
                refine lv_bipush (v := nI 6) S.1 S.2.1 dX8_ruleOf_85 (by decide) ?_
                refine lv_goto (tgt := 91) S.1 S.2.1 dX8_ruleOf_87 (by decide) ?_
                exact rt_i S hr hlk (by simp [ruF, h1, h2, h3, h4, h5, h6, h7]) dX8_ruleOf_91
            · skip
              refine lv_iconst (v := nI 5) S.1 S.2.1 dX8_ruleOf_70 (by decide) ?_
              refine lv_goto (tgt := 91) S.1 S.2.1 dX8_ruleOf_71 (by decide) ?_
              exact rt_i S hr hlk (by simp [ruF, h1, h2, h3, h4, h5, h6]) dX8_ruleOf_91
          · skip
            refine lv_iconst (v := nI 4) S.1 S.2.1 dX8_ruleOf_58 (by decide) ?_
            exact rt_i S hr hlk (by simp [ruF, h1, h2, h3, h4, h5]) dX8_ruleOf_59
        · skip
          refine lv_iconst (v := nI 3) S.1 S.2.1 dX8_ruleOf_47 (by decide) ?_
          exact rt_i S hr hlk (by simp [ruF, h1, h2, h3, h4]) dX8_ruleOf_48
      · skip
        refine lv_iconst (v := nI 2) S.1 S.2.1 dX8_ruleOf_35 (by decide) ?_
        exact rt_i S hr hlk (by simp [ruF, h1, h2, h3]) dX8_ruleOf_36
  · skip
    refine lv_iconst (v := nI 1) S.1 S.2.1 dX8_ruleOf_9 (by decide) ?_
    exact rt_i S hr hlk (by simp [ruF, h1]) dX8_ruleOf_10
theorem kX8_ruleOf {p : Program} {l : Launch} {e : Env} {R : Room} {s : State} {m : MethodId} {args : Array Value} {below : List Frame} {meth : Method} {c : Code} {H : Heap} {locs : List Loc} {cells slots : Nat} {Q : State → Prop} {cc : ByteArray} {nL index pc : Nat} {own : String} {ls : Array Slot} {rest : List Value} {D : va_G} {K : Nat → ClassId} {a : Nat → Nat} {w n lap : Nat} {op mu ba la en : Nat → Nat} {pr : Nat → Option Nat} {sc : MSc} {ci : Nat} {j : Nat} (S : CallFix p m c cc nL s args lw_tb own) (hI : PI D K (mW K a w n lap op mu ba la en pr sc) s H) (hG : GOK w n lap op mu ba la en pr) (hci : ci < 8) (hj : j < 1024) (hlink : Cond.methodLink own index yX8_ruleOf ∈ lw_tb) (hR : RO 4 R cells slots) (hsz : ls.size = nL) (hW : (rest.map fun v => v.category).sum ≤ 8) (hdg : decode cc pc = .ok (.invokevirtual index, 3)) (kk : W p l e R s m args below meth c H locs cells slots Q (F0 m (pc + 3) ls (.int (nI (ruF pr w (op ci) (bl op ci) (mu ci) (ba ci) (en (ci % 2 * 2)) (en (ci % 2 * 2 + 1)) j)) :: rest))) : W p l e R s m args below meth c H locs cells slots Q (F0 m pc ls (.int (nI j) :: .int (nI ci) :: .ref (a 0) :: rest)) :=
  kV (As := [.int (nI ci), .int (nI j)]) (b := a 0) S (mX8_ruleOf l hG hci hj) hlink tw_718 tw_20 tw_50 tw_719 (by show _ ∧ _ ∧ _ = some 2; decide +kernel) (by decide) hR blP (piU hI) (va_recv hI.2 hI.1 (ci := 8) (q0 := 0) rfl rfl) hsz rfl hW hdg kk

set_option maxHeartbeats 4000000 in
set_option maxRecDepth 100000 in
theorem mX8_costOf (l : Launch) {D : va_G} {K : Nat → ClassId} {a : Nat → Nat} {w n lap : Nat} {op mu ba la en : Nat → Nat} {pr : Nat → Option Nat} {sc : MSc} {ci : Nat} {j : Nat} (hG : GOK w n lap op mu ba la en pr) (hci : ci < 8) (hj : j < 1024) : Met l yX8_costOf (TWd yX8_costOf cX8_costOf 6 (some .int)) (rmk 3) (va_Pc [.ref (a 0), .int (nI ci), .int (nI j)] (fun U => PI D K (mW K a w n lap op mu ba la en pr sc) U U.heap)) (QcRead (nI (coF pr w (op ci) j))) 0 0 (fun _ => False) := by
  refine mt_of (by decide +kernel) (Nat.le_of_ble_eq_true rfl) ?_
  intro p e s m below meth c S hr hlk hI ls hl
  have S : CallFix p m c cX8_costOf 6 s ([.ref (a 0), .int (nI ci), .int (nI j)] : List Value).toArray lw_tb RX8 := S
  have hl : lv_has ls 6 [(0, .ref (a 0)), (1, .int (nI ci)), (2, .int (nI j))] := hl
  obtain ⟨gw1, gw2, gn, gl1, gl2, gop, gmu, gba, gla, gen, gpr, gop2, gmu2, gba2, gla2, gme, gbe, gle, gee⟩ := id hG
  refine lv_iconst (v := nI 0) S.1 S.2.1 dX8_costOf_0 (by decide) ?_
  refine ly_top (z := (nI (sumN (coT pr w (op ci) j) 0))) rfl ?_
  refine lv_istore_n (lv' := [(3, .int (nI (sumN (coT pr w (op ci) j) 0))), (0, .ref (a 0)), (1, .int (nI ci)), (2, .int (nI j))]) S.1 S.2.1 dX8_costOf_1 rfl hl (by decide) rfl (fun ls hl => ?_)
  refine lv_iconst (v := nI 0) S.1 S.2.1 dX8_costOf_2 (by decide) ?_
  refine lv_istore (lv' := [(4, .int (nI 0)), (3, .int (nI (sumN (coT pr w (op ci) j) 0))), (0, .ref (a 0)), (1, .int (nI ci)), (2, .int (nI j))]) S.1 S.2.1 dX8_costOf_3 hl (by decide) rfl (fun ls hl => ?_)
  have L5 : ∀ (f5 : Nat) (k : Nat), (k ≤ w) → w - k < f5 → ∀ (ls : Array Slot), lv_has ls 6 [(0, .ref (a 0)), (1, .int (nI ci)), (2, .int (nI j)), (3, .int (nI (sumN (coT pr w (op ci) j) k))), (4, .int (nI k))] → W p l e (rmk 3) s m ([.ref (a 0), .int (nI ci), .int (nI j)] : List Value).toArray below meth c s.heap [] 0 0 (MQ below (QcRead (nI (coF pr w (op ci) j))) ([.ref (a 0), .int (nI ci), .int (nI j)] : List Value).toArray s 0 0 (fun _ => False)) (F0 m 5 ls []) := by
    intro f5
    induction f5 with
    | zero =>
      intro k i2 hm
      exact absurd hm (Nat.not_lt_zero _)
    | succ f5 ih5 =>
      intro k i2 hm5 ls hl
      refine lv_iload S.1 S.2.1 dX8_costOf_5 (lv_at hl 4 rfl) ?_
      refine lv_aload_n S.1 S.2.1 dX8_costOf_7 rfl (lv_at hl 0 rfl) ?_
      refine g8 S hI 0 rfl 0 (by decide) tw_607 rfl dX8_costOf_8 ?_
      refine ly_cmge (tgt := 65) S (nI_le1 (by omega) (by omega)) (nI_le2 (by omega) (by omega)) dX8_costOf_11 (by decide) (fun h1 => ?_) (fun h1 => ?_)
      · skip
        refine lv_iload_n S.1 S.2.1 dX8_costOf_65 rfl (lv_at hl 3 rfl) ?_
        exact rt_i S hr hlk (by rw [show k = w by omega]; rfl) dX8_costOf_66
      · skip
        refine lv_aload_n S.1 S.2.1 dX8_costOf_14 rfl (lv_at hl 0 rfl) ?_
        refine lv_iload_n S.1 S.2.1 dX8_costOf_15 rfl (lv_at hl 1 rfl) ?_
        refine lv_iload_n S.1 S.2.1 dX8_costOf_16 rfl (lv_at hl 2 rfl) ?_
        refine lv_iload S.1 S.2.1 dX8_costOf_17 (lv_at hl 4 rfl) ?_
        refine kX8_begins S hI hG (by omega) (by omega) (by omega) tw_728 (rok (by decide)) hl.1 (Nat.le_of_ble_eq_true rfl) dX8_costOf_19 ?_
        refine ly_ifeq (tgt := 59) S bI_e1 bI_e2 dX8_costOf_22 (by decide) (fun h2 => ?_) (fun h2 => ?_)
        · skip
          rw [show nI (sumN (coT pr w (op ci) j) k) = nI (sumN (coT pr w (op ci) j) (k + 1)) by simp [sumN, coT, h1, h2]] at hl
          refine lv_iinc (v := nI (k + 1)) (lv' := [(4, .int (nI (k + 1))), (0, .ref (a 0)), (1, .int (nI ci)), (2, .int (nI j)), (3, .int (nI (sumN (coT pr w (op ci) j) (k + 1))))]) S.1 S.2.1 dX8_costOf_59 hl (k := 4) rfl (nJ_in _ _) (by decide) rfl (fun ls hl => ?_)
          refine lv_goto (tgt := 5) S.1 S.2.1 dX8_costOf_62 (by decide) ?_
          exact ih5 (k + 1) (by omega) (by omega) _ (lv_sub hl [1, 2, 3, 4, 0] rfl)
        · skip
          refine lv_aload_n S.1 S.2.1 dX8_costOf_25 rfl (lv_at hl 0 rfl) ?_
          refine lv_iload_n S.1 S.2.1 dX8_costOf_26 rfl (lv_at hl 1 rfl) ?_
          refine lv_iload_n S.1 S.2.1 dX8_costOf_27 rfl (lv_at hl 2 rfl) ?_
          refine lv_iload S.1 S.2.1 dX8_costOf_28 (lv_at hl 4 rfl) ?_
          refine kX8_lengthFrom S hI hG (by omega) (by omega) (by omega) tw_732 (rok (by decide)) hl.1 (Nat.le_of_ble_eq_true rfl) dX8_costOf_30 ?_
          have b3 : 1 ≤ lenF w (op ci) j k := lenF_pos
          have b4 : k + lenF w (op ci) j k ≤ w := lenF_le (by omega)
          refine lv_istore (lv' := [(5, .int (nI (lenF w (op ci) j k))), (0, .ref (a 0)), (1, .int (nI ci)), (2, .int (nI j)), (3, .int (nI (sumN (coT pr w (op ci) j) k))), (4, .int (nI k))]) S.1 S.2.1 dX8_costOf_33 hl (by decide) rfl (fun ls hl => ?_)
          refine lv_iload_n S.1 S.2.1 dX8_costOf_35 rfl (lv_at hl 4 rfl) ?_
          refine lv_aload_n S.1 S.2.1 dX8_costOf_36 rfl (lv_at hl 1 rfl) ?_
          refine lv_iload S.1 S.2.1 dX8_costOf_37 (lv_at hl 0 rfl) ?_
          refine kX8_isPriced S hI hG (by omega) (by omega) tw_740 (rok (by decide)) hl.1 (Nat.le_of_ble_eq_true rfl) dX8_costOf_39 ?_
          refine ly_ifeq (tgt := 55) S bI_e1 bI_e2 dX8_costOf_42 (by decide) (fun h5 => ?_) (fun h5 => ?_)
          · skip
            refine lv_bipush (v := nI 100) S.1 S.2.1 dX8_costOf_55 (by decide) ?_
            refine lv_iadd S.1 S.2.1 dX8_costOf_57 ?_
            refine ly_top (z := nI ((sumN (coT pr w (op ci) j) k) + 100)) (nI_add _ _) ?_
            refine ly_top (z := nI (sumN (coT pr w (op ci) j) (k + 1))) (by simp [sumN, coT, prN, h1, h2, h5]) ?_
            refine lv_istore_n (lv' := [(3, .int (nI (sumN (coT pr w (op ci) j) (k + 1)))), (5, .int (nI (lenF w (op ci) j k))), (0, .ref (a 0)), (1, .int (nI ci)), (2, .int (nI j)), (4, .int (nI k))]) S.1 S.2.1 dX8_costOf_58 rfl hl (by decide) rfl (fun ls hl => ?_)
            refine lv_iinc (v := nI (k + 1)) (lv' := [(4, .int (nI (k + 1))), (3, .int (nI (sumN (coT pr w (op ci) j) (k + 1)))), (5, .int (nI (lenF w (op ci) j k))), (0, .ref (a 0)), (1, .int (nI ci)), (2, .int (nI j))]) S.1 S.2.1 dX8_costOf_59 hl (k := 5) rfl (nJ_in _ _) (by decide) rfl (fun ls hl => ?_)
            refine lv_goto (tgt := 5) S.1 S.2.1 dX8_costOf_62 (by decide) ?_
            exact ih5 (k + 1) (by omega) (by omega) _ (lv_sub hl [3, 4, 5, 1, 0] rfl)
          · skip
            refine lv_aload_n S.1 S.2.1 dX8_costOf_45 rfl (lv_at hl 1 rfl) ?_
            refine g8 S hI 0 rfl 6 (by decide) tw_613 rfl dX8_costOf_46 ?_
            refine lv_iload S.1 S.2.1 dX8_costOf_49 (lv_at hl 0 rfl) ?_
            have p6 := prc_le h5
            refine ly_iald (v := (pz 0 pr (lenF w (op ci) j k))) S hI 5 rfl (by omega) (by decide) rfl dX8_costOf_51 ?_
            refine ly_top (pz_v (by omega) h5) ?_
            refine lv_goto (tgt := 57) S.1 S.2.1 dX8_costOf_52 (by decide) ?_
            refine lv_iadd S.1 S.2.1 dX8_costOf_57 ?_
            refine ly_top (z := nI ((sumN (coT pr w (op ci) j) k) + (prN pr (lenF w (op ci) j k)))) (nI_add _ _) ?_
            refine ly_top (z := nI (sumN (coT pr w (op ci) j) (k + 1))) (by simp [sumN, coT, prN, h1, h2, h5]) ?_
            refine lv_istore_n (lv' := [(3, .int (nI (sumN (coT pr w (op ci) j) (k + 1)))), (5, .int (nI (lenF w (op ci) j k))), (0, .ref (a 0)), (1, .int (nI ci)), (2, .int (nI j)), (4, .int (nI k))]) S.1 S.2.1 dX8_costOf_58 rfl hl (by decide) rfl (fun ls hl => ?_)
            refine lv_iinc (v := nI (k + 1)) (lv' := [(4, .int (nI (k + 1))), (3, .int (nI (sumN (coT pr w (op ci) j) (k + 1)))), (5, .int (nI (lenF w (op ci) j k))), (0, .ref (a 0)), (1, .int (nI ci)), (2, .int (nI j))]) S.1 S.2.1 dX8_costOf_59 hl (k := 5) rfl (nJ_in _ _) (by decide) rfl (fun ls hl => ?_)
            refine lv_goto (tgt := 5) S.1 S.2.1 dX8_costOf_62 (by decide) ?_
            exact ih5 (k + 1) (by omega) (by omega) _ (lv_sub hl [3, 4, 5, 1, 0] rfl)
  exact L5 _ 0 (by omega) (Nat.lt_succ_self _) _ (lv_sub hl [2, 3, 4, 1, 0] rfl)
theorem kX8_costOf {p : Program} {l : Launch} {e : Env} {R : Room} {s : State} {m : MethodId} {args : Array Value} {below : List Frame} {meth : Method} {c : Code} {H : Heap} {locs : List Loc} {cells slots : Nat} {Q : State → Prop} {cc : ByteArray} {nL index pc : Nat} {own : String} {ls : Array Slot} {rest : List Value} {D : va_G} {K : Nat → ClassId} {a : Nat → Nat} {w n lap : Nat} {op mu ba la en : Nat → Nat} {pr : Nat → Option Nat} {sc : MSc} {ci : Nat} {j : Nat} (S : CallFix p m c cc nL s args lw_tb own) (hI : PI D K (mW K a w n lap op mu ba la en pr sc) s H) (hG : GOK w n lap op mu ba la en pr) (hci : ci < 8) (hj : j < 1024) (hlink : Cond.methodLink own index yX8_costOf ∈ lw_tb) (hR : RO 3 R cells slots) (hsz : ls.size = nL) (hW : (rest.map fun v => v.category).sum ≤ 8) (hdg : decode cc pc = .ok (.invokevirtual index, 3)) (kk : W p l e R s m args below meth c H locs cells slots Q (F0 m (pc + 3) ls (.int (nI (coF pr w (op ci) j)) :: rest))) : W p l e R s m args below meth c H locs cells slots Q (F0 m pc ls (.int (nI j) :: .int (nI ci) :: .ref (a 0) :: rest)) :=
  kV (As := [.int (nI ci), .int (nI j)]) (b := a 0) S (mX8_costOf l hG hci hj) hlink tw_770 tw_31 tw_50 tw_771 (by show _ ∧ _ ∧ _ = some 2; decide +kernel) (by decide) hR blP (piU hI) (va_recv hI.2 hI.1 (ci := 8) (q0 := 0) rfl rfl) hsz rfl hW hdg kk

set_option maxHeartbeats 4000000 in
set_option maxRecDepth 100000 in
theorem mX8_piecesIn (l : Launch) {D : va_G} {K : Nat → ClassId} {a : Nat → Nat} {w n lap : Nat} {op mu ba la en : Nat → Nat} {pr : Nat → Option Nat} {sc : MSc} {ci : Nat} {j : Nat} {L : Nat} (hG : GOK w n lap op mu ba la en pr) (hci : ci < 8) (hj : j < 1024) (hL : L < 2 ^ 31) : Met l yX8_piecesIn (TWd yX8_piecesIn cX8_piecesIn 6 (some .int)) (rmk 3) (va_Pc [.ref (a 0), .int (nI ci), .int (nI j), .int (nI L)] (fun U => PI D K (mW K a w n lap op mu ba la en pr sc) U U.heap)) (QcRead (nI (pcF w (op ci) j L))) 0 0 (fun _ => False) := by
  refine mt_of (by decide +kernel) (Nat.le_of_ble_eq_true rfl) ?_
  intro p e s m below meth c S hr hlk hI ls hl
  have S : CallFix p m c cX8_piecesIn 6 s ([.ref (a 0), .int (nI ci), .int (nI j), .int (nI L)] : List Value).toArray lw_tb RX8 := S
  have hl : lv_has ls 6 [(0, .ref (a 0)), (1, .int (nI ci)), (2, .int (nI j)), (3, .int (nI L))] := hl
  obtain ⟨gw1, gw2, gn, gl1, gl2, gop, gmu, gba, gla, gen, gpr, gop2, gmu2, gba2, gla2, gme, gbe, gle, gee⟩ := id hG
  refine lv_iconst (v := nI 0) S.1 S.2.1 dX8_piecesIn_0 (by decide) ?_
  refine ly_top (z := (nI (sumN (pcT w (op ci) j L) 0))) rfl ?_
  refine lv_istore (lv' := [(4, .int (nI (sumN (pcT w (op ci) j L) 0))), (0, .ref (a 0)), (1, .int (nI ci)), (2, .int (nI j)), (3, .int (nI L))]) S.1 S.2.1 dX8_piecesIn_1 hl (by decide) rfl (fun ls hl => ?_)
  refine lv_iconst (v := nI 0) S.1 S.2.1 dX8_piecesIn_3 (by decide) ?_
  refine lv_istore (lv' := [(5, .int (nI 0)), (4, .int (nI (sumN (pcT w (op ci) j L) 0))), (0, .ref (a 0)), (1, .int (nI ci)), (2, .int (nI j)), (3, .int (nI L))]) S.1 S.2.1 dX8_piecesIn_4 hl (by decide) rfl (fun ls hl => ?_)
  have L6 : ∀ (f6 : Nat) (k : Nat), (k ≤ w) → w - k < f6 → ∀ (ls : Array Slot), lv_has ls 6 [(0, .ref (a 0)), (1, .int (nI ci)), (2, .int (nI j)), (3, .int (nI L)), (4, .int (nI (sumN (pcT w (op ci) j L) k))), (5, .int (nI k))] → W p l e (rmk 3) s m ([.ref (a 0), .int (nI ci), .int (nI j), .int (nI L)] : List Value).toArray below meth c s.heap [] 0 0 (MQ below (QcRead (nI (pcF w (op ci) j L))) ([.ref (a 0), .int (nI ci), .int (nI j), .int (nI L)] : List Value).toArray s 0 0 (fun _ => False)) (F0 m 6 ls []) := by
    intro f6
    induction f6 with
    | zero =>
      intro k i2 hm
      exact absurd hm (Nat.not_lt_zero _)
    | succ f6 ih6 =>
      intro k i2 hm6 ls hl
      refine lv_iload S.1 S.2.1 dX8_piecesIn_6 (lv_at hl 5 rfl) ?_
      refine lv_aload_n S.1 S.2.1 dX8_piecesIn_8 rfl (lv_at hl 0 rfl) ?_
      refine g8 S hI 0 rfl 0 (by decide) tw_607 rfl dX8_piecesIn_9 ?_
      refine ly_cmge (tgt := 54) S (nI_le1 (by omega) (by omega)) (nI_le2 (by omega) (by omega)) dX8_piecesIn_12 (by decide) (fun h1 => ?_) (fun h1 => ?_)
      · skip
        refine lv_iload S.1 S.2.1 dX8_piecesIn_54 (lv_at hl 4 rfl) ?_
        exact rt_i S hr hlk (by rw [show k = w by omega]; rfl) dX8_piecesIn_56
      · skip
        refine lv_iload S.1 S.2.1 dX8_piecesIn_15 (lv_at hl 4 rfl) ?_
        refine lv_aload_n S.1 S.2.1 dX8_piecesIn_17 rfl (lv_at hl 0 rfl) ?_
        refine lv_iload_n S.1 S.2.1 dX8_piecesIn_18 rfl (lv_at hl 1 rfl) ?_
        refine lv_iload_n S.1 S.2.1 dX8_piecesIn_19 rfl (lv_at hl 2 rfl) ?_
        refine lv_iload S.1 S.2.1 dX8_piecesIn_20 (lv_at hl 5 rfl) ?_
        refine kX8_begins S hI hG (by omega) (by omega) (by omega) tw_728 (rok (by decide)) hl.1 (Nat.le_of_ble_eq_true rfl) dX8_piecesIn_22 ?_
        refine ly_ifeq (tgt := 44) S bI_e1 bI_e2 dX8_piecesIn_25 (by decide) (fun h2 => ?_) (fun h2 => ?_)
        · skip
          refine lv_iconst (v := nI 0) S.1 S.2.1 dX8_piecesIn_44 (by decide) ?_
          refine lv_iadd S.1 S.2.1 dX8_piecesIn_45 ?_
          refine ly_top (z := nI ((sumN (pcT w (op ci) j L) k) + 0)) (nI_add _ _) ?_
          refine ly_top (z := nI (sumN (pcT w (op ci) j L) (k + 1))) (by simp [sumN, pcT, h1, h2]) ?_
          refine lv_istore (lv' := [(4, .int (nI (sumN (pcT w (op ci) j L) (k + 1)))), (0, .ref (a 0)), (1, .int (nI ci)), (2, .int (nI j)), (3, .int (nI L)), (5, .int (nI k))]) S.1 S.2.1 dX8_piecesIn_46 hl (by decide) rfl (fun ls hl => ?_)
          refine lv_iinc (v := nI (k + 1)) (lv' := [(5, .int (nI (k + 1))), (4, .int (nI (sumN (pcT w (op ci) j L) (k + 1)))), (0, .ref (a 0)), (1, .int (nI ci)), (2, .int (nI j)), (3, .int (nI L))]) S.1 S.2.1 dX8_piecesIn_48 hl (k := 5) rfl (nJ_in _ _) (by decide) rfl (fun ls hl => ?_)
          refine lv_goto (tgt := 6) S.1 S.2.1 dX8_piecesIn_51 (by decide) ?_
          exact ih6 (k + 1) (by omega) (by omega) _ (lv_sub hl [2, 3, 4, 5, 1, 0] rfl)
        · skip
          refine lv_aload_n S.1 S.2.1 dX8_piecesIn_28 rfl (lv_at hl 0 rfl) ?_
          refine lv_iload_n S.1 S.2.1 dX8_piecesIn_29 rfl (lv_at hl 1 rfl) ?_
          refine lv_iload_n S.1 S.2.1 dX8_piecesIn_30 rfl (lv_at hl 2 rfl) ?_
          refine lv_iload S.1 S.2.1 dX8_piecesIn_31 (lv_at hl 5 rfl) ?_
          refine kX8_lengthFrom S hI hG (by omega) (by omega) (by omega) tw_732 (rok (by decide)) hl.1 (Nat.le_of_ble_eq_true rfl) dX8_piecesIn_33 ?_
          have b3 : 1 ≤ lenF w (op ci) j k := lenF_pos
          have b4 : k + lenF w (op ci) j k ≤ w := lenF_le (by omega)
          refine lv_iload_n S.1 S.2.1 dX8_piecesIn_36 rfl (lv_at hl 3 rfl) ?_
          refine ly_cmne (tgt := 44) S (nI_e2 (by omega) (by omega)) (nI_e1 (by omega) (by omega)) dX8_piecesIn_37 (by decide) (fun h5 => ?_) (fun h5 => ?_)
          · skip
            refine lv_iconst (v := nI 0) S.1 S.2.1 dX8_piecesIn_44 (by decide) ?_
            refine lv_iadd S.1 S.2.1 dX8_piecesIn_45 ?_
            refine ly_top (z := nI ((sumN (pcT w (op ci) j L) k) + 0)) (nI_add _ _) ?_
            refine ly_top (z := nI (sumN (pcT w (op ci) j L) (k + 1))) (by simp [sumN, pcT, h1, h2, h5]) ?_
            refine lv_istore (lv' := [(4, .int (nI (sumN (pcT w (op ci) j L) (k + 1)))), (0, .ref (a 0)), (1, .int (nI ci)), (2, .int (nI j)), (3, .int (nI L)), (5, .int (nI k))]) S.1 S.2.1 dX8_piecesIn_46 hl (by decide) rfl (fun ls hl => ?_)
            refine lv_iinc (v := nI (k + 1)) (lv' := [(5, .int (nI (k + 1))), (4, .int (nI (sumN (pcT w (op ci) j L) (k + 1)))), (0, .ref (a 0)), (1, .int (nI ci)), (2, .int (nI j)), (3, .int (nI L))]) S.1 S.2.1 dX8_piecesIn_48 hl (k := 5) rfl (nJ_in _ _) (by decide) rfl (fun ls hl => ?_)
            refine lv_goto (tgt := 6) S.1 S.2.1 dX8_piecesIn_51 (by decide) ?_
            exact ih6 (k + 1) (by omega) (by omega) _ (lv_sub hl [2, 3, 4, 5, 1, 0] rfl)
          · skip
            refine lv_iconst (v := nI 1) S.1 S.2.1 dX8_piecesIn_40 (by decide) ?_
            refine lv_goto (tgt := 45) S.1 S.2.1 dX8_piecesIn_41 (by decide) ?_
            refine lv_iadd S.1 S.2.1 dX8_piecesIn_45 ?_
            refine ly_top (z := nI ((sumN (pcT w (op ci) j L) k) + 1)) (nI_add _ _) ?_
            refine ly_top (z := nI (sumN (pcT w (op ci) j L) (k + 1))) (by simp [sumN, pcT, h1, h2, h5]) ?_
            refine lv_istore (lv' := [(4, .int (nI (sumN (pcT w (op ci) j L) (k + 1)))), (0, .ref (a 0)), (1, .int (nI ci)), (2, .int (nI j)), (3, .int (nI L)), (5, .int (nI k))]) S.1 S.2.1 dX8_piecesIn_46 hl (by decide) rfl (fun ls hl => ?_)
            refine lv_iinc (v := nI (k + 1)) (lv' := [(5, .int (nI (k + 1))), (4, .int (nI (sumN (pcT w (op ci) j L) (k + 1)))), (0, .ref (a 0)), (1, .int (nI ci)), (2, .int (nI j)), (3, .int (nI L))]) S.1 S.2.1 dX8_piecesIn_48 hl (k := 5) rfl (nJ_in _ _) (by decide) rfl (fun ls hl => ?_)
            refine lv_goto (tgt := 6) S.1 S.2.1 dX8_piecesIn_51 (by decide) ?_
            exact ih6 (k + 1) (by omega) (by omega) _ (lv_sub hl [2, 3, 4, 5, 1, 0] rfl)
  exact L6 _ 0 (by omega) (Nat.lt_succ_self _) _ (lv_sub hl [2, 3, 4, 5, 1, 0] rfl)
theorem kX8_piecesIn {p : Program} {l : Launch} {e : Env} {R : Room} {s : State} {m : MethodId} {args : Array Value} {below : List Frame} {meth : Method} {c : Code} {H : Heap} {locs : List Loc} {cells slots : Nat} {Q : State → Prop} {cc : ByteArray} {nL index pc : Nat} {own : String} {ls : Array Slot} {rest : List Value} {D : va_G} {K : Nat → ClassId} {a : Nat → Nat} {w n lap : Nat} {op mu ba la en : Nat → Nat} {pr : Nat → Option Nat} {sc : MSc} {ci : Nat} {j : Nat} {L : Nat} (S : CallFix p m c cc nL s args lw_tb own) (hI : PI D K (mW K a w n lap op mu ba la en pr sc) s H) (hG : GOK w n lap op mu ba la en pr) (hci : ci < 8) (hj : j < 1024) (hL : L < 2 ^ 31) (hlink : Cond.methodLink own index yX8_piecesIn ∈ lw_tb) (hR : RO 3 R cells slots) (hsz : ls.size = nL) (hW : (rest.map fun v => v.category).sum ≤ 8) (hdg : decode cc pc = .ok (.invokevirtual index, 3)) (kk : W p l e R s m args below meth c H locs cells slots Q (F0 m (pc + 3) ls (.int (nI (pcF w (op ci) j L)) :: rest))) : W p l e R s m args below meth c H locs cells slots Q (F0 m pc ls (.int (nI L) :: .int (nI j) :: .int (nI ci) :: .ref (a 0) :: rest)) :=
  kV (As := [.int (nI ci), .int (nI j), .int (nI L)]) (b := a 0) S (mX8_piecesIn l hG hci hj hL) hlink tw_794 tw_34 tw_50 tw_795 (by show _ ∧ _ ∧ _ = some 3; decide +kernel) (by decide) hR blP (piU hI) (va_recv hI.2 hI.1 (ci := 8) (q0 := 0) rfl rfl) hsz rfl hW hdg kk

set_option maxHeartbeats 4000000 in
set_option maxRecDepth 100000 in
theorem mX8_spansOf (l : Launch) {D : va_G} {K : Nat → ClassId} {a : Nat → Nat} {w n lap : Nat} {op mu ba la en : Nat → Nat} {pr : Nat → Option Nat} {sc : MSc} {ci : Nat} (hG : GOK w n lap op mu ba la en pr) (hci : ci < 8) : Met l yX8_spansOf (TWd yX8_spansOf cX8_spansOf 4 (some .int)) (rmk 1) (va_Pc [.ref (a 0), .int (nI ci)] (fun U => PI D K (mW K a w n lap op mu ba la en pr sc) U U.heap)) (QcRead (nI (sumN (spT (op ci)) w))) 0 0 (fun _ => False) := by
  refine mt_of (by decide +kernel) (Nat.le_of_ble_eq_true rfl) ?_
  intro p e s m below meth c S hr hlk hI ls hl
  have S : CallFix p m c cX8_spansOf 4 s ([.ref (a 0), .int (nI ci)] : List Value).toArray lw_tb RX8 := S
  have hl : lv_has ls 4 [(0, .ref (a 0)), (1, .int (nI ci))] := hl
  obtain ⟨gw1, gw2, gn, gl1, gl2, gop, gmu, gba, gla, gen, gpr, gop2, gmu2, gba2, gla2, gme, gbe, gle, gee⟩ := id hG
  have o1 := gop ci
  refine lv_iconst (v := nI 0) S.1 S.2.1 dX8_spansOf_0 (by decide) ?_
  refine ly_top (z := (nI (sumN (spT (op ci)) 0))) rfl ?_
  refine lv_istore_n (lv' := [(2, .int (nI (sumN (spT (op ci)) 0))), (0, .ref (a 0)), (1, .int (nI ci))]) S.1 S.2.1 dX8_spansOf_1 rfl hl (by decide) rfl (fun ls hl => ?_)
  refine lv_iconst (v := nI 0) S.1 S.2.1 dX8_spansOf_2 (by decide) ?_
  refine lv_istore_n (lv' := [(3, .int (nI 0)), (2, .int (nI (sumN (spT (op ci)) 0))), (0, .ref (a 0)), (1, .int (nI ci))]) S.1 S.2.1 dX8_spansOf_3 rfl hl (by decide) rfl (fun ls hl => ?_)
  have L4 : ∀ (f4 : Nat) (k : Nat), (k ≤ w) → w - k < f4 → ∀ (ls : Array Slot), lv_has ls 4 [(0, .ref (a 0)), (1, .int (nI ci)), (2, .int (nI (sumN (spT (op ci)) k))), (3, .int (nI k))] → W p l e (rmk 1) s m ([.ref (a 0), .int (nI ci)] : List Value).toArray below meth c s.heap [] 0 0 (MQ below (QcRead (nI (sumN (spT (op ci)) w))) ([.ref (a 0), .int (nI ci)] : List Value).toArray s 0 0 (fun _ => False)) (F0 m 4 ls []) := by
    intro f4
    induction f4 with
    | zero =>
      intro k i2 hm
      exact absurd hm (Nat.not_lt_zero _)
    | succ f4 ih4 =>
      intro k i2 hm4 ls hl
      refine lv_iload_n S.1 S.2.1 dX8_spansOf_4 rfl (lv_at hl 3 rfl) ?_
      refine lv_aload_n S.1 S.2.1 dX8_spansOf_5 rfl (lv_at hl 0 rfl) ?_
      refine g8 S hI 0 rfl 0 (by decide) tw_607 rfl dX8_spansOf_6 ?_
      refine ly_cmge (tgt := 58) S (nI_le1 (by omega) (by omega)) (nI_le2 (by omega) (by omega)) dX8_spansOf_9 (by decide) (fun h1 => ?_) (fun h1 => ?_)
      · skip
        refine lv_iload_n S.1 S.2.1 dX8_spansOf_58 rfl (lv_at hl 2 rfl) ?_
        exact rt_i S hr hlk (by rw [show k = w by omega]) dX8_spansOf_59
      · skip
        refine lv_iload_n S.1 S.2.1 dX8_spansOf_12 rfl (lv_at hl 2 rfl) ?_
        refine lv_aload_n S.1 S.2.1 dX8_spansOf_13 rfl (lv_at hl 0 rfl) ?_
        refine g8 S hI 0 rfl 2 (by decide) tw_609 rfl dX8_spansOf_14 ?_
        refine lv_iload_n S.1 S.2.1 dX8_spansOf_17 rfl (lv_at hl 1 rfl) ?_
        refine ly_iald (v := (nI (op ci))) S hI 1 rfl (by omega) (by decide) rfl dX8_spansOf_18 ?_
        refine lv_iload_n S.1 S.2.1 dX8_spansOf_19 rfl (lv_at hl 3 rfl) ?_
        refine kX8_has S (by omega) (by omega) tw_705 (rok (by decide)) hl.1 (Nat.le_of_ble_eq_true rfl) dX8_spansOf_20 ?_
        refine ly_ifne (tgt := 49) S bI_e2 bI_e1 dX8_spansOf_23 (by decide) (fun h2 => ?_) (fun h2 => ?_)
        · skip
          refine lv_iconst (v := nI 0) S.1 S.2.1 dX8_spansOf_49 (by decide) ?_
          refine lv_iadd S.1 S.2.1 dX8_spansOf_50 ?_
          refine ly_top (z := nI ((sumN (spT (op ci)) k) + 0)) (nI_add _ _) ?_
          refine ly_top (z := nI (sumN (spT (op ci)) (k + 1))) (by simp [sumN, spT, h1, h2]) ?_
          refine lv_istore_n (lv' := [(2, .int (nI (sumN (spT (op ci)) (k + 1)))), (0, .ref (a 0)), (1, .int (nI ci)), (3, .int (nI k))]) S.1 S.2.1 dX8_spansOf_51 rfl hl (by decide) rfl (fun ls hl => ?_)
          refine lv_iinc (v := nI (k + 1)) (lv' := [(3, .int (nI (k + 1))), (2, .int (nI (sumN (spT (op ci)) (k + 1)))), (0, .ref (a 0)), (1, .int (nI ci))]) S.1 S.2.1 dX8_spansOf_52 hl (k := 3) rfl (nJ_in _ _) (by decide) rfl (fun ls hl => ?_)
          refine lv_goto (tgt := 4) S.1 S.2.1 dX8_spansOf_55 (by decide) ?_
          exact ih4 (k + 1) (by omega) (by omega) _ (lv_sub hl [2, 3, 1, 0] rfl)
        · skip
          refine lv_iload_n S.1 S.2.1 dX8_spansOf_26 rfl (lv_at hl 3 rfl) ?_
          refine ly_ifeq (tgt := 45) S (nI_z1 (by omega)) (nI_z2 (by omega)) dX8_spansOf_27 (by decide) (fun h3 => ?_) (fun h3 => ?_)
          · skip
            refine lv_iconst (v := nI 1) S.1 S.2.1 dX8_spansOf_45 (by decide) ?_
            refine lv_goto (tgt := 50) S.1 S.2.1 dX8_spansOf_46 (by decide) ?_
            refine lv_iadd S.1 S.2.1 dX8_spansOf_50 ?_
            refine ly_top (z := nI ((sumN (spT (op ci)) k) + 1)) (nI_add _ _) ?_
            refine ly_top (z := nI (sumN (spT (op ci)) (k + 1))) (by rw [sumN, spT_0 h2 h3]) ?_
            refine lv_istore_n (lv' := [(2, .int (nI (sumN (spT (op ci)) (k + 1)))), (0, .ref (a 0)), (1, .int (nI ci)), (3, .int (nI k))]) S.1 S.2.1 dX8_spansOf_51 rfl hl (by decide) rfl (fun ls hl => ?_)
            refine lv_iinc (v := nI (k + 1)) (lv' := [(3, .int (nI (k + 1))), (2, .int (nI (sumN (spT (op ci)) (k + 1)))), (0, .ref (a 0)), (1, .int (nI ci))]) S.1 S.2.1 dX8_spansOf_52 hl (k := 3) rfl (nJ_in _ _) (by decide) rfl (fun ls hl => ?_)
            refine lv_goto (tgt := 4) S.1 S.2.1 dX8_spansOf_55 (by decide) ?_
            exact ih4 (k + 1) (by omega) (by omega) _ (lv_sub hl [2, 3, 1, 0] rfl)
          · skip
            refine lv_aload_n S.1 S.2.1 dX8_spansOf_30 rfl (lv_at hl 0 rfl) ?_
            refine g8 S hI 0 rfl 2 (by decide) tw_609 rfl dX8_spansOf_31 ?_
            refine lv_iload_n S.1 S.2.1 dX8_spansOf_34 rfl (lv_at hl 1 rfl) ?_
            refine ly_iald (v := (nI (op ci))) S hI 1 rfl (by omega) (by decide) rfl dX8_spansOf_35 ?_
            refine lv_iload_n S.1 S.2.1 dX8_spansOf_36 rfl (lv_at hl 3 rfl) ?_
            refine lv_iconst (v := nI 1) S.1 S.2.1 dX8_spansOf_37 (by decide) ?_
            refine lv_isub S.1 S.2.1 dX8_spansOf_38 ?_
            refine ly_top (z := nI (k - 1)) (pk_sub (by omega)) ?_
            refine kX8_has S (by omega) (by omega) tw_705 (rok (by decide)) hl.1 (Nat.le_of_ble_eq_true rfl) dX8_spansOf_39 ?_
            refine ly_ifeq (tgt := 49) S bI_e1 bI_e2 dX8_spansOf_42 (by decide) (fun h4 => ?_) (fun h4 => ?_)
            · skip
              refine lv_iconst (v := nI 0) S.1 S.2.1 dX8_spansOf_49 (by decide) ?_
              refine lv_iadd S.1 S.2.1 dX8_spansOf_50 ?_
              refine ly_top (z := nI ((sumN (spT (op ci)) k) + 0)) (nI_add _ _) ?_
              refine ly_top (z := nI (sumN (spT (op ci)) (k + 1))) (by simp [sumN, spT, h1, h2, h3, h4]) ?_
              refine lv_istore_n (lv' := [(2, .int (nI (sumN (spT (op ci)) (k + 1)))), (0, .ref (a 0)), (1, .int (nI ci)), (3, .int (nI k))]) S.1 S.2.1 dX8_spansOf_51 rfl hl (by decide) rfl (fun ls hl => ?_)
              refine lv_iinc (v := nI (k + 1)) (lv' := [(3, .int (nI (k + 1))), (2, .int (nI (sumN (spT (op ci)) (k + 1)))), (0, .ref (a 0)), (1, .int (nI ci))]) S.1 S.2.1 dX8_spansOf_52 hl (k := 3) rfl (nJ_in _ _) (by decide) rfl (fun ls hl => ?_)
              refine lv_goto (tgt := 4) S.1 S.2.1 dX8_spansOf_55 (by decide) ?_
              exact ih4 (k + 1) (by omega) (by omega) _ (lv_sub hl [2, 3, 1, 0] rfl)
            · skip
              refine lv_iconst (v := nI 1) S.1 S.2.1 dX8_spansOf_45 (by decide) ?_
              refine lv_goto (tgt := 50) S.1 S.2.1 dX8_spansOf_46 (by decide) ?_
              refine lv_iadd S.1 S.2.1 dX8_spansOf_50 ?_
              refine ly_top (z := nI ((sumN (spT (op ci)) k) + 1)) (nI_add _ _) ?_
              refine ly_top (z := nI (sumN (spT (op ci)) (k + 1))) (by simp [sumN, spT, h1, h2, h3, h4]) ?_
              refine lv_istore_n (lv' := [(2, .int (nI (sumN (spT (op ci)) (k + 1)))), (0, .ref (a 0)), (1, .int (nI ci)), (3, .int (nI k))]) S.1 S.2.1 dX8_spansOf_51 rfl hl (by decide) rfl (fun ls hl => ?_)
              refine lv_iinc (v := nI (k + 1)) (lv' := [(3, .int (nI (k + 1))), (2, .int (nI (sumN (spT (op ci)) (k + 1)))), (0, .ref (a 0)), (1, .int (nI ci))]) S.1 S.2.1 dX8_spansOf_52 hl (k := 3) rfl (nJ_in _ _) (by decide) rfl (fun ls hl => ?_)
              refine lv_goto (tgt := 4) S.1 S.2.1 dX8_spansOf_55 (by decide) ?_
              exact ih4 (k + 1) (by omega) (by omega) _ (lv_sub hl [2, 3, 1, 0] rfl)
  exact L4 _ 0 (by omega) (Nat.lt_succ_self _) _ (lv_sub hl [2, 3, 1, 0] rfl)
theorem kX8_spansOf {p : Program} {l : Launch} {e : Env} {R : Room} {s : State} {m : MethodId} {args : Array Value} {below : List Frame} {meth : Method} {c : Code} {H : Heap} {locs : List Loc} {cells slots : Nat} {Q : State → Prop} {cc : ByteArray} {nL index pc : Nat} {own : String} {ls : Array Slot} {rest : List Value} {D : va_G} {K : Nat → ClassId} {a : Nat → Nat} {w n lap : Nat} {op mu ba la en : Nat → Nat} {pr : Nat → Option Nat} {sc : MSc} {ci : Nat} (S : CallFix p m c cc nL s args lw_tb own) (hI : PI D K (mW K a w n lap op mu ba la en pr sc) s H) (hG : GOK w n lap op mu ba la en pr) (hci : ci < 8) (hlink : Cond.methodLink own index yX8_spansOf ∈ lw_tb) (hR : RO 1 R cells slots) (hsz : ls.size = nL) (hW : (rest.map fun v => v.category).sum ≤ 8) (hdg : decode cc pc = .ok (.invokevirtual index, 3)) (kk : W p l e R s m args below meth c H locs cells slots Q (F0 m (pc + 3) ls (.int (nI (sumN (spT (op ci)) w)) :: rest))) : W p l e R s m args below meth c H locs cells slots Q (F0 m pc ls (.int (nI ci) :: .ref (a 0) :: rest)) :=
  kV (As := [.int (nI ci)]) (b := a 0) S (mX8_spansOf l hG hci) hlink tw_703 tw_18 tw_50 tw_704 (by show _ ∧ _ ∧ _ = some 1; decide +kernel) (by decide) hR blP (piU hI) (va_recv hI.2 hI.1 (ci := 8) (q0 := 0) rfl rfl) hsz rfl hW hdg kk
