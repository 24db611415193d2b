set_option maxHeartbeats 4000000 in
set_option maxRecDepth 100000 in
theorem mX1_sumSubsets (l : Launch) {D : va_G} {K : Nat → ClassId} {b : Nat → Nat} {w n lap : Nat} {op mu ba la en : Nat → Nat} {pr : Nat → Option Nat} {fr : Bool} {co : Nat → Nat → Nat} {cw cj : Nat → Int64} {cl : Nat} {rv : Int64} {rc : Nat} {pj : Nat → Nat → Nat} {pw ch : Nat → Nat} {pl lc : Nat} {tl : Nat → Nat} (hDis : Dis b 44) (hG : GOK w n lap op mu ba la en pr) : Met l yX1_sumSubsets (TWd yX1_sumSubsets cX1_sumSubsets 4 none) (rmk 0) (va_Pc [.ref (b 10), .int (nI (2 ^ (w - 1)))] (fun U => PI D K (cW K b w n lap op mu ba la en pr fr co cw cj cl rv rc pj pw ch pl lc tl) U U.heap)) (QX D K (fun u : Nat → Int64 => none) (fun u => (cW K b w n lap op mu ba la en pr fr co u cj cl rv rc pj pw ch pl lc tl)) (fun u => (∀ S, S < 2 ^ (w - 1) → u S = zt cw (w - 1) S)) (adA b 44)) 0 0 (adA b 44) := by
  refine mt_of (by decide +kernel) (Nat.le_of_ble_eq_true rfl) ?_
  intro p e s m below meth c S hr hlk hI ls hl
  have S : CallFix p m c cX1_sumSubsets 4 s ([.ref (b 10), .int (nI (2 ^ (w - 1)))] : List Value).toArray lw_tb RX1 := S
  have hl : lv_has ls 4 [(0, .ref (b 10)), (1, .int (nI (2 ^ (w - 1))))] := hl
  have hS : va_S (adA b 44) s.heap s.heap [] := va_S.rf
  obtain ⟨gw1, gw2, gn, gl1, gl2, gop, gmu, gba, gla, gen, gpr, gop2, gmu2, gba2, gla2, gme, gbe, gle, gee⟩ := id hG
  have sw1 : 1 <<< (w - 1) = 2 ^ (w - 1) := Nat.one_shiftLeft _
  have pw1 : 2 ^ (w - 1) ≤ 2 ^ 9 := Nat.pow_le_pow_right (by decide) (by omega)
  have pw2 : 2 ^ (w - 1) ≤ 512 := pw1
  have pw6 : 2 ^ 1 ≤ 2 ^ (w - 1) := Nat.pow_le_pow_right (by decide) (by omega)
  have pw7 : 2 ≤ 2 ^ (w - 1) := pw6
  refine lv_iconst (v := nI 1) S.1 S.2.1 dX1_sumSubsets_0 (by decide) ?_
  refine ly_top (z := (nI (2 ^ 0))) rfl ?_
  refine lv_istore_n (lv' := [(2, .int (nI (2 ^ 0))), (0, .ref (b 10)), (1, .int (nI (2 ^ (w - 1))))]) S.1 S.2.1 dX1_sumSubsets_1 rfl hl (by decide) rfl (fun ls hl => ?_)
  have L2 : ∀ (f2 : Nat) (t : Nat) (t0 : Nat → Int64) (H : Heap) (locs : List Loc), (t ≤ w - 1) → (∀ S, S < 2 ^ (w - 1) → t0 S = zt cw t S) → (PI D K (cW K b w n lap op mu ba la en pr fr co t0 cj cl rv rc pj pw ch pl lc tl) s H) → (va_S (adA b 44) s.heap H locs) → w - 1 - t < f2 → ∀ (ls : Array Slot), lv_has ls 4 [(0, .ref (b 10)), (1, .int (nI (2 ^ (w - 1)))), (2, .int (nI (2 ^ t)))] → W p l e (rmk 0) s m ([.ref (b 10), .int (nI (2 ^ (w - 1)))] : List Value).toArray below meth c H locs 0 0 (MQ below (QX D K (fun u : Nat → Int64 => none) (fun u => (cW K b w n lap op mu ba la en pr fr co u cj cl rv rc pj pw ch pl lc tl)) (fun u => (∀ S, S < 2 ^ (w - 1) → u S = zt cw (w - 1) S)) (adA b 44)) ([.ref (b 10), .int (nI (2 ^ (w - 1)))] : List Value).toArray s 0 0 (adA b 44)) (F0 m 2 ls []) := by
    intro f2
    induction f2 with
    | zero =>
      intro t t0 H locs i1 i2 hI hS hm
      exact absurd hm (Nat.not_lt_zero _)
    | succ f2 ih2 =>
      intro t t0 H locs i1 i2 hI hS hm2 ls hl
      have pt : 2 ^ t ≤ 2 ^ (w - 1) := Nat.pow_le_pow_right (by decide) i1
      refine lv_iload_n S.1 S.2.1 dX1_sumSubsets_2 rfl (lv_at hl 2 rfl) ?_
      refine lv_iload_n S.1 S.2.1 dX1_sumSubsets_3 rfl (lv_at hl 1 rfl) ?_
      refine ly_cmge (tgt := 50) S (nI_le1 (by omega) (by omega)) (nI_le2 (by omega) (by omega)) dX1_sumSubsets_4 (by decide) (fun h1 => ?_) (fun h1 => ?_)
      · skip
        have tge : w - 1 ≤ t := (Nat.pow_le_pow_iff_right (by decide)).mp h1
        exact rw_v S hr hlk t0 rfl (fun S hS => by rw [i2 S hS, show t = w - 1 by omega]) hI hS dX1_sumSubsets_50
      · skip
        have tlt : t < w - 1 := (Nat.pow_lt_pow_iff_right (by decide)).mp h1
        refine lv_iconst (v := nI 0) S.1 S.2.1 dX1_sumSubsets_7 (by decide) ?_
        refine lv_istore_n (lv' := [(3, .int (nI 0)), (0, .ref (b 10)), (1, .int (nI (2 ^ (w - 1)))), (2, .int (nI (2 ^ t)))]) S.1 S.2.1 dX1_sumSubsets_8 rfl hl (by decide) rfl (fun ls hl => ?_)
        have L9 : ∀ (f9 : Nat) (i : Nat) (t1 : Nat → Int64) (H : Heap) (locs : List Loc), (i ≤ 2 ^ (w - 1)) → (∀ S, S < i → t1 S = zt cw (t + 1) S) → (∀ S, i ≤ S → S < 2 ^ (w - 1) → t1 S = zt cw t S) → (PI D K (cW K b w n lap op mu ba la en pr fr co t1 cj cl rv rc pj pw ch pl lc tl) s H) → (va_S (adA b 44) s.heap H locs) → 2 ^ (w - 1) - i < f9 → ∀ (ls : Array Slot), lv_has ls 4 [(0, .ref (b 10)), (1, .int (nI (2 ^ (w - 1)))), (2, .int (nI (2 ^ t))), (3, .int (nI i))] → W p l e (rmk 0) s m ([.ref (b 10), .int (nI (2 ^ (w - 1)))] : List Value).toArray below meth c H locs 0 0 (MQ below (QX D K (fun u : Nat → Int64 => none) (fun u => (cW K b w n lap op mu ba la en pr fr co u cj cl rv rc pj pw ch pl lc tl)) (fun u => (∀ S, S < 2 ^ (w - 1) → u S = zt cw (w - 1) S)) (adA b 44)) ([.ref (b 10), .int (nI (2 ^ (w - 1)))] : List Value).toArray s 0 0 (adA b 44)) (F0 m 9 ls []) := by
          intro f9
          induction f9 with
          | zero =>
            intro i t1 H locs j1 j2 j3 hI hS hm
            exact absurd hm (Nat.not_lt_zero _)
          | succ f9 ih9 =>
            intro i t1 H locs j1 j2 j3 hI hS hm9 ls hl
            refine lv_iload_n S.1 S.2.1 dX1_sumSubsets_9 rfl (lv_at hl 3 rfl) ?_
            refine lv_iload_n S.1 S.2.1 dX1_sumSubsets_10 rfl (lv_at hl 1 rfl) ?_
            refine ly_cmge (tgt := 43) S (nI_le1 (by omega) (by omega)) (nI_le2 (by omega) (by omega)) dX1_sumSubsets_11 (by decide) (fun h2 => ?_) (fun h2 => ?_)
            · skip
              refine lv_iload_n S.1 S.2.1 dX1_sumSubsets_43 rfl (lv_at hl 2 rfl) ?_
              refine lv_iconst (v := nI 1) S.1 S.2.1 dX1_sumSubsets_44 (by decide) ?_
              refine lv_ishl S.1 S.2.1 dX1_sumSubsets_45 ?_
              refine ly_top (z := nI ((2 ^ t) <<< 1)) (nI_shl (by omega) (by rw [Nat.shiftLeft_eq]; omega)) ?_
              refine ly_top (z := (nI (2 ^ (t + 1)))) (congrArg nI (by rw [Nat.shiftLeft_eq, Nat.pow_one, ← Nat.pow_succ])) ?_
              refine lv_istore_n (lv' := [(2, .int (nI (2 ^ (t + 1)))), (0, .ref (b 10)), (1, .int (nI (2 ^ (w - 1)))), (3, .int (nI i))]) S.1 S.2.1 dX1_sumSubsets_46 rfl hl (by decide) rfl (fun ls hl => ?_)
              refine lv_goto (tgt := 2) S.1 S.2.1 dX1_sumSubsets_47 (by decide) ?_
              exact ih2 (t + 1) t1 _ _ (by omega) (fun S hS => j2 S (by omega)) hI hS (by omega) _ (lv_sub hl [1, 2, 0] rfl)
            · skip
              refine lv_iload_n S.1 S.2.1 dX1_sumSubsets_14 rfl (lv_at hl 3 rfl) ?_
              refine lv_iload_n S.1 S.2.1 dX1_sumSubsets_15 rfl (lv_at hl 2 rfl) ?_
              refine lv_iand S.1 S.2.1 dX1_sumSubsets_16 ?_
              refine ly_top (z := nI (i &&& (2 ^ t))) (nI_and (by omega) (by omega)) ?_
              refine ly_ifeq (tgt := 37) S (nI_z1 (Nat.lt_of_le_of_lt Nat.and_le_left (by omega))) (nI_z2 (Nat.lt_of_le_of_lt Nat.and_le_left (by omega))) dX1_sumSubsets_17 (by decide) (fun h3 => ?_) (fun h3 => ?_)
              · skip
                have bt := and_pow.mp h3
                have zz := ztn_f (by omega) j2 j3 bt
                have q1 : i < 2 ^ 31 := by omega
                have q2 : 2 ^ t < 2 ^ 31 := by omega
                refine lv_iinc (v := nI (i + 1)) (lv' := [(3, .int (nI (i + 1))), (0, .ref (b 10)), (1, .int (nI (2 ^ (w - 1)))), (2, .int (nI (2 ^ t)))]) S.1 S.2.1 dX1_sumSubsets_37 hl (k := 3) rfl (nJ_in _ _) (by decide) rfl (fun ls hl => ?_)
                refine lv_goto (tgt := 9) S.1 S.2.1 dX1_sumSubsets_40 (by decide) ?_
                exact ih9 (i + 1) t1 _ _ (by omega) zz.1 zz.2 hI hS (by omega) _ (lv_sub hl [1, 2, 3, 0] rfl)
              · skip
                have bt := bit_of h3
                have zz := ztn_t (by omega) j2 j3 bt
                have xl := xor_lt bt
                refine lv_aload_n S.1 S.2.1 dX1_sumSubsets_20 rfl (lv_at hl 0 rfl) ?_
                refine g1 S hI 10 rfl 2 (by decide) tw_173 rfl dX1_sumSubsets_21 ?_
                refine lv_iload_n S.1 S.2.1 dX1_sumSubsets_24 rfl (lv_at hl 3 rfl) ?_
                refine lv_dup2_11 S.1 S.2.1 dX1_sumSubsets_25 rfl rfl ?_
                refine ly_lald (v := (t1 i)) S hI 11 rfl (by omega) (by decide) rfl dX1_sumSubsets_26 ?_
                refine lv_aload_n S.1 S.2.1 dX1_sumSubsets_27 rfl (lv_at hl 0 rfl) ?_
                refine g1 S hI 10 rfl 2 (by decide) tw_173 rfl dX1_sumSubsets_28 ?_
                refine lv_iload_n S.1 S.2.1 dX1_sumSubsets_31 rfl (lv_at hl 3 rfl) ?_
                refine lv_iload_n S.1 S.2.1 dX1_sumSubsets_32 rfl (lv_at hl 2 rfl) ?_
                have q1 : i < 2 ^ 31 := by omega
                have q2 : 2 ^ t < 2 ^ 31 := by omega
                refine lv_ixor S.1 S.2.1 dX1_sumSubsets_33 ?_
                refine ly_top (z := nI (i ^^^ (2 ^ t))) (nI_xor (by omega) (by omega)) ?_
                refine ly_lald (v := (t1 (i ^^^ (2 ^ t)))) S hI 11 rfl (by omega) (by decide) rfl dX1_sumSubsets_34 ?_
                refine lv_ladd S.1 S.2.1 dX1_sumSubsets_35 ?_
                refine ly_last (ws' := (cW K b w n lap op mu ba la en pr fr co (va_up t1 i ((t1 i) + (t1 (i ^^^ (2 ^ t))))) cj cl rv rc pj pw ch pl lc tl)) S hI (cD hDis) hS 11 rfl (by omega) (by decide) cs_cw dX1_sumSubsets_36 (fun H locs hI hS => ?_)
                have q1 : i < 2 ^ 31 := by omega
                have q2 : 2 ^ t < 2 ^ 31 := by omega
                refine lv_iinc (v := nI (i + 1)) (lv' := [(3, .int (nI (i + 1))), (0, .ref (b 10)), (1, .int (nI (2 ^ (w - 1)))), (2, .int (nI (2 ^ t)))]) S.1 S.2.1 dX1_sumSubsets_37 hl (k := 3) rfl (nJ_in _ _) (by decide) rfl (fun ls hl => ?_)
                refine lv_goto (tgt := 9) S.1 S.2.1 dX1_sumSubsets_40 (by decide) ?_
                exact ih9 (i + 1) (va_up t1 i ((t1 i) + (t1 (i ^^^ (2 ^ t))))) _ _ (by omega) zz.1 zz.2 hI hS (by omega) _ (lv_sub hl [1, 2, 3, 0] rfl)
        exact L9 _ 0 t0 _ _ (Nat.zero_le _) (fun S hS => absurd hS (Nat.not_lt_zero S)) (fun S _ hS => i2 S hS) hI hS (Nat.lt_succ_self _) _ (lv_sub hl [1, 2, 3, 0] rfl)
  exact L2 _ 0 cw _ _ (by omega) (fun S _ => rfl) hI hS (Nat.lt_succ_self _) _ (lv_sub hl [1, 2, 0] rfl)
theorem kX1_sumSubsets {p : Program} {l : Launch} {e : Env} {R : Room} {s : State} {m : MethodId} {args : Array Value} {below : List Frame} {meth : Method} {c : Code} {H H0 : Heap} {locs : List Loc} {cells slots : Nat} {Q : State → Prop} {cc : ByteArray} {nL index pc : Nat} {own : String} {ls : Array Slot} {rest : List Value} {D : va_G} {K : Nat → ClassId} {b : Nat → Nat} {w n lap : Nat} {op mu ba la en : Nat → Nat} {pr : Nat → Option Nat} {fr : Bool} {co : Nat → Nat → Nat} {cw cj : Nat → Int64} {cl : Nat} {rv : Int64} {rc : Nat} {pj : Nat → Nat → Nat} {pw ch : Nat → Nat} {pl lc : Nat} {tl : Nat → Nat} (S : CallFix p m c cc nL s args lw_tb own) (hI : PI D K (cW K b w n lap op mu ba la en pr fr co cw cj cl rv rc pj pw ch pl lc tl) s H) (hS : va_S (adA b 44) H0 H locs) (hDis : Dis b 44) (hG : GOK w n lap op mu ba la en pr) (hlink : Cond.methodLink own index yX1_sumSubsets ∈ lw_tb) (hR : RO 0 R cells slots) (hsz : ls.size = nL) (hW : (rest.map fun v => v.category).sum ≤ 8) (hdg : decode cc pc = .ok (.invokevirtual index, 3)) (kk : ∀ (u : Nat → Int64) (H1 : Heap) (locs1 : List Loc), ((∀ S, S < 2 ^ (w - 1) → u S = zt cw (w - 1) S)) → PI D K (cW K b w n lap op mu ba la en pr fr co u cj cl rv rc pj pw ch pl lc tl) s H1 → va_S (adA b 44) H0 H1 locs1 → H.size ≤ H1.size → (∀ q : Nat, q < H.size → ¬ (adA b 44) q → H1[q]? = H[q]?) → W p l e R s m args below meth c H1 locs1 cells slots Q (F0 m (pc + 3) ls (rest))) : W p l e R s m args below meth c H locs cells slots Q (F0 m pc ls (.int (nI (2 ^ (w - 1))) :: .ref (b 10) :: rest)) :=
  kVX (As := [.int (nI (2 ^ (w - 1)))]) (b := b 10) S (mX1_sumSubsets l hDis hG) hlink tw_460 tw_7 tw_47 tw_461 (by show _ ∧ _ ∧ _ = some 1; decide +kernel) (by decide) hR blP (piU hI) (va_recv hI.2 hI.1 (ci := 1) (q0 := 10) rfl rfl) hS (fun _ h => h) hsz rfl hW hdg kk

set_option maxHeartbeats 4000000 in
set_option maxRecDepth 100000 in
theorem mX3_takeLeastOfSubsets (l : Launch) {D : va_G} {K : Nat → ClassId} {b : Nat → Nat} {w n lap : Nat} {op mu ba la en : Nat → Nat} {pr : Nat → Option Nat} {fr : Bool} {co : Nat → Nat → Nat} {cw cj : Nat → Int64} {cl : Nat} {rv : Int64} {rc : Nat} {pj : Nat → Nat → Nat} {pw ch : Nat → Nat} {pl lc : Nat} {tl : Nat → Nat} (hDis : Dis b 44) (hG : GOK w n lap op mu ba la en pr) (hB : ∀ S, pw S ≤ 1000000) : Met l yX3_takeLeastOfSubsets (TWd yX3_takeLeastOfSubsets cX3_takeLeastOfSubsets 4 none) (rmk 1) (va_Pc [.ref (b 13), .int (nI (2 ^ (w - 1)))] (fun U => PI D K (cW K b w n lap op mu ba la en pr fr co cw cj cl rv rc pj pw ch pl lc tl) U U.heap)) (QX D K (fun u : Nat → Nat => none) (fun u => (cW K b w n lap op mu ba la en pr fr co cw cj cl rv rc pj u ch pl lc tl)) (fun u => (∀ S, S < 2 ^ (w - 1) → u S = zm pw (w - 1) S) ∧ ∀ S, u S ≤ 1000000) (adA b 44)) 0 0 (adA b 44) := by
  refine mt_of (by decide +kernel) (Nat.le_of_ble_eq_true rfl) ?_
  intro p e s m below meth c S hr hlk hI ls hl
  have S : CallFix p m c cX3_takeLeastOfSubsets 4 s ([.ref (b 13), .int (nI (2 ^ (w - 1)))] : List Value).toArray lw_tb RX3 := S
  have hl : lv_has ls 4 [(0, .ref (b 13)), (1, .int (nI (2 ^ (w - 1))))] := hl
  have hS : va_S (adA b 44) s.heap s.heap [] := va_S.rf
  obtain ⟨gw1, gw2, gn, gl1, gl2, gop, gmu, gba, gla, gen, gpr, gop2, gmu2, gba2, gla2, gme, gbe, gle, gee⟩ := id hG
  have sw1 : 1 <<< (w - 1) = 2 ^ (w - 1) := Nat.one_shiftLeft _
  have pw1 : 2 ^ (w - 1) ≤ 2 ^ 9 := Nat.pow_le_pow_right (by decide) (by omega)
  have pw2 : 2 ^ (w - 1) ≤ 512 := pw1
  have pw6 : 2 ^ 1 ≤ 2 ^ (w - 1) := Nat.pow_le_pow_right (by decide) (by omega)
  have pw7 : 2 ≤ 2 ^ (w - 1) := pw6
  refine lv_iconst (v := nI 1) S.1 S.2.1 dX3_takeLeastOfSubsets_0 (by decide) ?_
  refine ly_top (z := (nI (2 ^ 0))) rfl ?_
  refine lv_istore_n (lv' := [(2, .int (nI (2 ^ 0))), (0, .ref (b 13)), (1, .int (nI (2 ^ (w - 1))))]) S.1 S.2.1 dX3_takeLeastOfSubsets_1 rfl hl (by decide) rfl (fun ls hl => ?_)
  have L2 : ∀ (f2 : Nat) (t : Nat) (t0 : Nat → Nat) (H : Heap) (locs : List Loc), (t ≤ w - 1) → (∀ S, S < 2 ^ (w - 1) → t0 S = zm pw t S) → (∀ S, t0 S ≤ 1000000) → (PI D K (cW K b w n lap op mu ba la en pr fr co cw cj cl rv rc pj t0 ch pl lc tl) s H) → (va_S (adA b 44) s.heap H locs) → w - 1 - t < f2 → ∀ (ls : Array Slot), lv_has ls 4 [(0, .ref (b 13)), (1, .int (nI (2 ^ (w - 1)))), (2, .int (nI (2 ^ t)))] → W p l e (rmk 1) s m ([.ref (b 13), .int (nI (2 ^ (w - 1)))] : List Value).toArray below meth c H locs 0 0 (MQ below (QX D K (fun u : Nat → Nat => none) (fun u => (cW K b w n lap op mu ba la en pr fr co cw cj cl rv rc pj u ch pl lc tl)) (fun u => (∀ S, S < 2 ^ (w - 1) → u S = zm pw (w - 1) S) ∧ ∀ S, u S ≤ 1000000) (adA b 44)) ([.ref (b 13), .int (nI (2 ^ (w - 1)))] : List Value).toArray s 0 0 (adA b 44)) (F0 m 2 ls []) := by
    intro f2
    induction f2 with
    | zero =>
      intro t t0 H locs i1 i2 iB hI hS hm
      exact absurd hm (Nat.not_lt_zero _)
    | succ f2 ih2 =>
      intro t t0 H locs i1 i2 iB hI hS hm2 ls hl
      have pt : 2 ^ t ≤ 2 ^ (w - 1) := Nat.pow_le_pow_right (by decide) i1
      refine lv_iload_n S.1 S.2.1 dX3_takeLeastOfSubsets_2 rfl (lv_at hl 2 rfl) ?_
      refine lv_iload_n S.1 S.2.1 dX3_takeLeastOfSubsets_3 rfl (lv_at hl 1 rfl) ?_
      refine ly_cmge (tgt := 56) S (nI_le1 (by omega) (by omega)) (nI_le2 (by omega) (by omega)) dX3_takeLeastOfSubsets_4 (by decide) (fun h1 => ?_) (fun h1 => ?_)
      · skip
        have tge : w - 1 ≤ t := (Nat.pow_le_pow_iff_right (by decide)).mp h1
        exact rw_v S hr hlk t0 rfl ⟨fun S hS => by rw [i2 S hS, show t = w - 1 by omega], iB⟩ hI hS dX3_takeLeastOfSubsets_56
      · skip
        have tlt : t < w - 1 := (Nat.pow_lt_pow_iff_right (by decide)).mp h1
        refine lv_iconst (v := nI 0) S.1 S.2.1 dX3_takeLeastOfSubsets_7 (by decide) ?_
        refine lv_istore_n (lv' := [(3, .int (nI 0)), (0, .ref (b 13)), (1, .int (nI (2 ^ (w - 1)))), (2, .int (nI (2 ^ t)))]) S.1 S.2.1 dX3_takeLeastOfSubsets_8 rfl hl (by decide) rfl (fun ls hl => ?_)
        have L9 : ∀ (f9 : Nat) (i : Nat) (t1 : Nat → Nat) (H : Heap) (locs : List Loc), (i ≤ 2 ^ (w - 1)) → (∀ S, S < i → t1 S = zm pw (t + 1) S) → (∀ S, i ≤ S → S < 2 ^ (w - 1) → t1 S = zm pw t S) → (∀ S, t1 S ≤ 1000000) → (PI D K (cW K b w n lap op mu ba la en pr fr co cw cj cl rv rc pj t1 ch pl lc tl) s H) → (va_S (adA b 44) s.heap H locs) → 2 ^ (w - 1) - i < f9 → ∀ (ls : Array Slot), lv_has ls 4 [(0, .ref (b 13)), (1, .int (nI (2 ^ (w - 1)))), (2, .int (nI (2 ^ t))), (3, .int (nI i))] → W p l e (rmk 1) s m ([.ref (b 13), .int (nI (2 ^ (w - 1)))] : List Value).toArray below meth c H locs 0 0 (MQ below (QX D K (fun u : Nat → Nat => none) (fun u => (cW K b w n lap op mu ba la en pr fr co cw cj cl rv rc pj u ch pl lc tl)) (fun u => (∀ S, S < 2 ^ (w - 1) → u S = zm pw (w - 1) S) ∧ ∀ S, u S ≤ 1000000) (adA b 44)) ([.ref (b 13), .int (nI (2 ^ (w - 1)))] : List Value).toArray s 0 0 (adA b 44)) (F0 m 9 ls []) := by
          intro f9
          induction f9 with
          | zero =>
            intro i t1 H locs j1 j2 j3 jB hI hS hm
            exact absurd hm (Nat.not_lt_zero _)
          | succ f9 ih9 =>
            intro i t1 H locs j1 j2 j3 jB hI hS hm9 ls hl
            refine lv_iload_n S.1 S.2.1 dX3_takeLeastOfSubsets_9 rfl (lv_at hl 3 rfl) ?_
            refine lv_iload_n S.1 S.2.1 dX3_takeLeastOfSubsets_10 rfl (lv_at hl 1 rfl) ?_
            refine ly_cmge (tgt := 49) S (nI_le1 (by omega) (by omega)) (nI_le2 (by omega) (by omega)) dX3_takeLeastOfSubsets_11 (by decide) (fun h2 => ?_) (fun h2 => ?_)
            · skip
              refine lv_iload_n S.1 S.2.1 dX3_takeLeastOfSubsets_49 rfl (lv_at hl 2 rfl) ?_
              refine lv_iconst (v := nI 1) S.1 S.2.1 dX3_takeLeastOfSubsets_50 (by decide) ?_
              refine lv_ishl S.1 S.2.1 dX3_takeLeastOfSubsets_51 ?_
              refine ly_top (z := nI ((2 ^ t) <<< 1)) (nI_shl (by omega) (by rw [Nat.shiftLeft_eq]; omega)) ?_
              refine ly_top (z := (nI (2 ^ (t + 1)))) (congrArg nI (by rw [Nat.shiftLeft_eq, Nat.pow_one, ← Nat.pow_succ])) ?_
              refine lv_istore_n (lv' := [(2, .int (nI (2 ^ (t + 1)))), (0, .ref (b 13)), (1, .int (nI (2 ^ (w - 1)))), (3, .int (nI i))]) S.1 S.2.1 dX3_takeLeastOfSubsets_52 rfl hl (by decide) rfl (fun ls hl => ?_)
              refine lv_goto (tgt := 2) S.1 S.2.1 dX3_takeLeastOfSubsets_53 (by decide) ?_
              exact ih2 (t + 1) t1 _ _ (by omega) (fun S hS => j2 S (by omega)) jB hI hS (by omega) _ (lv_sub hl [1, 2, 0] rfl)
            · skip
              refine lv_iload_n S.1 S.2.1 dX3_takeLeastOfSubsets_14 rfl (lv_at hl 3 rfl) ?_
              refine lv_iload_n S.1 S.2.1 dX3_takeLeastOfSubsets_15 rfl (lv_at hl 2 rfl) ?_
              refine lv_iand S.1 S.2.1 dX3_takeLeastOfSubsets_16 ?_
              refine ly_top (z := nI (i &&& (2 ^ t))) (nI_and (by omega) (by omega)) ?_
              refine ly_ifeq (tgt := 43) S (nI_z1 (Nat.lt_of_le_of_lt Nat.and_le_left (by omega))) (nI_z2 (Nat.lt_of_le_of_lt Nat.and_le_left (by omega))) dX3_takeLeastOfSubsets_17 (by decide) (fun h3 => ?_) (fun h3 => ?_)
              · skip
                have bt := and_pow.mp h3
                have zz := zmn_f (by omega) j2 j3 bt
                refine lv_iinc (v := nI (i + 1)) (lv' := [(3, .int (nI (i + 1))), (0, .ref (b 13)), (1, .int (nI (2 ^ (w - 1)))), (2, .int (nI (2 ^ t)))]) S.1 S.2.1 dX3_takeLeastOfSubsets_43 hl (k := 3) rfl (nJ_in _ _) (by decide) rfl (fun ls hl => ?_)
                refine lv_goto (tgt := 9) S.1 S.2.1 dX3_takeLeastOfSubsets_46 (by decide) ?_
                exact ih9 (i + 1) t1 _ _ (by omega) zz.1 zz.2 jB hI hS (by omega) _ (lv_sub hl [1, 2, 3, 0] rfl)
              · skip
                have bt := bit_of h3
                have zz := zmn_t (by omega) j2 j3 bt
                have xl := xor_lt bt
                refine lv_aload_n S.1 S.2.1 dX3_takeLeastOfSubsets_20 rfl (lv_at hl 0 rfl) ?_
                refine g3 S hI 13 rfl 3 (by decide) tw_206 rfl dX3_takeLeastOfSubsets_21 ?_
                refine lv_iload_n S.1 S.2.1 dX3_takeLeastOfSubsets_24 rfl (lv_at hl 3 rfl) ?_
                refine lv_aload_n S.1 S.2.1 dX3_takeLeastOfSubsets_25 rfl (lv_at hl 0 rfl) ?_
                refine g3 S hI 13 rfl 3 (by decide) tw_206 rfl dX3_takeLeastOfSubsets_26 ?_
                refine lv_iload_n S.1 S.2.1 dX3_takeLeastOfSubsets_29 rfl (lv_at hl 3 rfl) ?_
                have q3 := jB i
                refine ly_iald (v := (nI (t1 i))) S hI 15 rfl (by omega) (by decide) rfl dX3_takeLeastOfSubsets_30 ?_
                refine lv_aload_n S.1 S.2.1 dX3_takeLeastOfSubsets_31 rfl (lv_at hl 0 rfl) ?_
                refine g3 S hI 13 rfl 3 (by decide) tw_206 rfl dX3_takeLeastOfSubsets_32 ?_
                refine lv_iload_n S.1 S.2.1 dX3_takeLeastOfSubsets_35 rfl (lv_at hl 3 rfl) ?_
                refine lv_iload_n S.1 S.2.1 dX3_takeLeastOfSubsets_36 rfl (lv_at hl 2 rfl) ?_
                have q1 : i < 2 ^ 31 := by omega
                have q2 : 2 ^ t < 2 ^ 31 := by omega
                refine lv_ixor S.1 S.2.1 dX3_takeLeastOfSubsets_37 ?_
                refine ly_top (z := nI (i ^^^ (2 ^ t))) (nI_xor (by omega) (by omega)) ?_
                have q4 := jB (i ^^^ 2 ^ t)
                refine ly_iald (v := (nI (t1 (i ^^^ (2 ^ t))))) S hI 15 rfl (by omega) (by decide) rfl dX3_takeLeastOfSubsets_38 ?_
                refine ly_min (x := (t1 i)) (z := (t1 (i ^^^ (2 ^ t)))) S tw_472 (rok (by decide)) hl.1 (Nat.le_of_ble_eq_true rfl) (by omega) (by omega) dX3_takeLeastOfSubsets_39 ?_
                refine ly_iast (ws' := (cW K b w n lap op mu ba la en pr fr co cw cj cl rv rc pj (va_up t1 i (min (t1 i) (t1 (i ^^^ (2 ^ t))))) ch pl lc tl)) S hI (cD hDis) hS 15 rfl (by omega) (by decide) cs_pw dX3_takeLeastOfSubsets_42 (fun H locs hI hS => ?_)
                refine lv_iinc (v := nI (i + 1)) (lv' := [(3, .int (nI (i + 1))), (0, .ref (b 13)), (1, .int (nI (2 ^ (w - 1)))), (2, .int (nI (2 ^ t)))]) S.1 S.2.1 dX3_takeLeastOfSubsets_43 hl (k := 3) rfl (nJ_in _ _) (by decide) rfl (fun ls hl => ?_)
                refine lv_goto (tgt := 9) S.1 S.2.1 dX3_takeLeastOfSubsets_46 (by decide) ?_
                exact ih9 (i + 1) (va_up t1 i (min (t1 i) (t1 (i ^^^ (2 ^ t))))) _ _ (by omega) zz.1 zz.2 (up_le jB (Nat.le_trans (Nat.min_le_left _ _) (jB i))) hI hS (by omega) _ (lv_sub hl [1, 2, 3, 0] rfl)
        exact L9 _ 0 t0 _ _ (Nat.zero_le _) (fun S hS => absurd hS (Nat.not_lt_zero S)) (fun S _ hS => i2 S hS) iB hI hS (Nat.lt_succ_self _) _ (lv_sub hl [1, 2, 3, 0] rfl)
  exact L2 _ 0 pw _ _ (by omega) (fun S _ => rfl) hB hI hS (Nat.lt_succ_self _) _ (lv_sub hl [1, 2, 0] rfl)
theorem kX3_takeLeastOfSubsets {p : Program} {l : Launch} {e : Env} {R : Room} {s : State} {m : MethodId} {args : Array Value} {below : List Frame} {meth : Method} {c : Code} {H H0 : Heap} {locs : List Loc} {cells slots : Nat} {Q : State → Prop} {cc : ByteArray} {nL index pc : Nat} {own : String} {ls : Array Slot} {rest : List Value} {D : va_G} {K : Nat → ClassId} {b : Nat → Nat} {w n lap : Nat} {op mu ba la en : Nat → Nat} {pr : Nat → Option Nat} {fr : Bool} {co : Nat → Nat → Nat} {cw cj : Nat → Int64} {cl : Nat} {rv : Int64} {rc : Nat} {pj : Nat → Nat → Nat} {pw ch : Nat → Nat} {pl lc : Nat} {tl : Nat → Nat} (S : CallFix p m c cc nL s args lw_tb own) (hI : PI D K (cW K b w n lap op mu ba la en pr fr co cw cj cl rv rc pj pw ch pl lc tl) s H) (hS : va_S (adA b 44) H0 H locs) (hDis : Dis b 44) (hG : GOK w n lap op mu ba la en pr) (hB : ∀ S, pw S ≤ 1000000) (hlink : Cond.methodLink own index yX3_takeLeastOfSubsets ∈ lw_tb) (hR : RO 1 R cells slots) (hsz : ls.size = nL) (hW : (rest.map fun v => v.category).sum ≤ 8) (hdg : decode cc pc = .ok (.invokevirtual index, 3)) (kk : ∀ (u : Nat → Nat) (H1 : Heap) (locs1 : List Loc), ((∀ S, S < 2 ^ (w - 1) → u S = zm pw (w - 1) S) ∧ ∀ S, u S ≤ 1000000) → PI D K (cW K b w n lap op mu ba la en pr fr co cw cj cl rv rc pj u ch pl lc tl) s H1 → va_S (adA b 44) H0 H1 locs1 → H.size ≤ H1.size → (∀ q : Nat, q < H.size → ¬ (adA b 44) q → H1[q]? = H[q]?) → W p l e R s m args below meth c H1 locs1 cells slots Q (F0 m (pc + 3) ls (rest))) : W p l e R s m args below meth c H locs cells slots Q (F0 m pc ls (.int (nI (2 ^ (w - 1))) :: .ref (b 13) :: rest)) :=
  kVX (As := [.int (nI (2 ^ (w - 1)))]) (b := b 13) S (mX3_takeLeastOfSubsets l hDis hG hB) hlink tw_484 tw_9 tw_48 tw_485 (by show _ ∧ _ ∧ _ = some 1; decide +kernel) (by decide) hR blP (piU hI) (va_recv hI.2 hI.1 (ci := 3) (q0 := 13) rfl rfl) hS (fun _ h => h) hsz rfl hW hdg kk

set_option maxHeartbeats 4000000 in
set_option maxRecDepth 100000 in
theorem mX1_addCourse (l : Launch) {D : va_G} {K : Nat → ClassId} {b : Nat → Nat} {w n lap : Nat} {op mu ba la en : Nat → Nat} {pr : Nat → Option Nat} {fr : Bool} {co : Nat → Nat → Nat} {cw cj : Nat → Int64} {cl : Nat} {rv : Int64} {rc : Nat} {pj : Nat → Nat → Nat} {pw ch : Nat → Nat} {pl lc : Nat} {tl : Nat → Nat} {ci : Nat} {z : Nat} (hDis : Dis b 44) (hG : GOK w n lap op mu ba la en pr) (hc : ci < 8) (hz1 : 1 ≤ z) (hz2 : z ≤ 3) (hCO : COK co) : Met l yX1_addCourse (TWd yX1_addCourse cX1_addCourse 5 (some .long)) (rmk 3) (va_Pc [.ref (b 10), .int (nI ci), .int (nI z)] (fun U => PI D K (cW K b w n lap op mu ba la en pr fr co cw cj cl rv rc pj pw ch pl lc tl) U U.heap)) (QX D K (fun u : (Nat → Int64) × (Nat → Int64) => some (.long (zt (jsF w co cw ci z) (w - 1) (2 ^ (w - 1) - 1)))) (fun u => (cW K b w n lap op mu ba la en pr fr co u.1 u.2 cl rv rc pj pw ch pl lc tl)) (fun u => ∀ S, S < 2 ^ (w - 1) → u.1 S = zt (jsF w co cw ci z) (w - 1) S) (adA b 44)) 0 0 (adA b 44) := by
  refine mt_of (by decide +kernel) (Nat.le_of_ble_eq_true rfl) ?_
  intro p e s m below meth c S hr hlk hI ls hl
  have S : CallFix p m c cX1_addCourse 5 s ([.ref (b 10), .int (nI ci), .int (nI z)] : List Value).toArray lw_tb RX1 := S
  have hl : lv_has ls 5 [(0, .ref (b 10)), (1, .int (nI ci)), (2, .int (nI z))] := hl
  have hS : va_S (adA b 44) s.heap s.heap [] := va_S.rf
  obtain ⟨gw1, gw2, gn, gl1, gl2, gop, gmu, gba, gla, gen, gpr, gop2, gmu2, gba2, gla2, gme, gbe, gle, gee⟩ := id hG
  refine lv_aload_n S.1 S.2.1 dX1_addCourse_0 rfl (lv_at hl 0 rfl) ?_
  refine g1 S hI 10 rfl 0 (by decide) tw_171 rfl dX1_addCourse_1 ?_
  refine kX6_sets S hI hG tw_445 (rok (by decide)) hl.1 (Nat.le_of_ble_eq_true rfl) dX1_addCourse_4 ?_
  have b1 : 2 ^ (w - 1) ≤ 512 := set_le gw2
  have b2 : 2 ≤ 2 ^ (w - 1) := set_ge gw1
  refine lv_istore_n (lv' := [(3, .int (nI (2 ^ (w - 1)))), (0, .ref (b 10)), (1, .int (nI ci)), (2, .int (nI z))]) S.1 S.2.1 dX1_addCourse_7 rfl hl (by decide) rfl (fun ls hl => ?_)
  refine lv_iconst (v := nI 0) S.1 S.2.1 dX1_addCourse_8 (by decide) ?_
  refine lv_istore (lv' := [(4, .int (nI 0)), (3, .int (nI (2 ^ (w - 1)))), (0, .ref (b 10)), (1, .int (nI ci)), (2, .int (nI z))]) S.1 S.2.1 dX1_addCourse_9 hl (by decide) rfl (fun ls hl => ?_)
  have L11 : ∀ (f11 : Nat) (i : Nat) (t : Nat → Int64) (H : Heap) (locs : List Loc), (i ≤ 2 ^ (w - 1)) → (∀ q, q < i → t q = jsF w co cw ci z q) → (PI D K (cW K b w n lap op mu ba la en pr fr co cw t cl rv rc pj pw ch pl lc tl) s H) → (va_S (adA b 44) s.heap H locs) → 2 ^ (w - 1) - i < f11 → ∀ (ls : Array Slot), lv_has ls 5 [(0, .ref (b 10)), (1, .int (nI ci)), (2, .int (nI z)), (3, .int (nI (2 ^ (w - 1)))), (4, .int (nI i))] → W p l e (rmk 3) s m ([.ref (b 10), .int (nI ci), .int (nI z)] : List Value).toArray below meth c H locs 0 0 (MQ below (QX D K (fun u : (Nat → Int64) × (Nat → Int64) => some (.long (zt (jsF w co cw ci z) (w - 1) (2 ^ (w - 1) - 1)))) (fun u => (cW K b w n lap op mu ba la en pr fr co u.1 u.2 cl rv rc pj pw ch pl lc tl)) (fun u => ∀ S, S < 2 ^ (w - 1) → u.1 S = zt (jsF w co cw ci z) (w - 1) S) (adA b 44)) ([.ref (b 10), .int (nI ci), .int (nI z)] : List Value).toArray s 0 0 (adA b 44)) (F0 m 11 ls []) := by
    intro f11
    induction f11 with
    | zero =>
      intro i t H locs i1 i2 hI hS hm
      exact absurd hm (Nat.not_lt_zero _)
    | succ f11 ih11 =>
      intro i t H locs i1 i2 hI hS hm11 ls hl
      refine lv_iload S.1 S.2.1 dX1_addCourse_11 (lv_at hl 4 rfl) ?_
      refine lv_iload_n S.1 S.2.1 dX1_addCourse_13 rfl (lv_at hl 3 rfl) ?_
      refine ly_cmge (tgt := 64) S (nI_le1 (by omega) (by omega)) (nI_le2 (by omega) (by omega)) dX1_addCourse_14 (by decide) (fun h3 => ?_) (fun h3 => ?_)
      · skip
        refine lv_aload_n S.1 S.2.1 dX1_addCourse_64 rfl (lv_at hl 0 rfl) ?_
        refine g1 S hI 10 rfl 3 (by decide) tw_174 rfl dX1_addCourse_65 ?_
        refine lv_iconst (v := nI 0) S.1 S.2.1 dX1_addCourse_68 (by decide) ?_
        refine lv_aload_n S.1 S.2.1 dX1_addCourse_69 rfl (lv_at hl 0 rfl) ?_
        refine g1 S hI 10 rfl 2 (by decide) tw_173 rfl dX1_addCourse_70 ?_
        refine lv_iconst (v := nI 0) S.1 S.2.1 dX1_addCourse_73 (by decide) ?_
        refine lv_iload_n S.1 S.2.1 dX1_addCourse_74 rfl (lv_at hl 3 rfl) ?_
        refine ly_copyl (ws' := (cW K b w n lap op mu ba la en pr fr co (va_cpy t cw 0 0 (2 ^ (w - 1))) t cl rv rc pj pw ch pl lc tl)) S tw_455 (rok (by decide)) hl.1 hI (cD hDis) hS 12 11 rfl rfl (by omega) (by omega) (by omega) rfl dX1_addCourse_75 (fun H locs hI hS => ?_)
        have e1 : ∀ q, q < 2 ^ (w - 1) → va_cpy t cw 0 0 (2 ^ (w - 1)) q = jsF w co cw ci z q := fun q hq => by rw [cpy_lt hq]; exact i2 q (by omega)
        refine lv_aload_n S.1 S.2.1 dX1_addCourse_78 rfl (lv_at hl 0 rfl) ?_
        refine lv_iload_n S.1 S.2.1 dX1_addCourse_79 rfl (lv_at hl 3 rfl) ?_
        refine kX1_sumSubsets S hI hS hDis hG tw_458 (rok (by decide)) hl.1 (Nat.le_of_ble_eq_true rfl) dX1_addCourse_80 (fun u4 H locs hu4 hI hS _ _ => ?_)
        have r1 := hu4
        have r2 : ∀ S, S < 2 ^ (w - 1) → u4 S = zt (jsF w co cw ci z) (w - 1) S := fun S hS => by rw [r1 S hS]; exact zt_congr e1 _ S hS
        refine lv_aload_n S.1 S.2.1 dX1_addCourse_83 rfl (lv_at hl 0 rfl) ?_
        refine g1 S hI 10 rfl 2 (by decide) tw_173 rfl dX1_addCourse_84 ?_
        refine lv_iload_n S.1 S.2.1 dX1_addCourse_87 rfl (lv_at hl 3 rfl) ?_
        refine lv_iconst (v := nI 1) S.1 S.2.1 dX1_addCourse_88 (by decide) ?_
        refine lv_isub S.1 S.2.1 dX1_addCourse_89 ?_
        refine ly_top (z := nI ((2 ^ (w - 1)) - 1)) (pk_sub (by omega)) ?_
        refine ly_lald (v := (u4 ((2 ^ (w - 1)) - 1))) S hI 11 rfl (by omega) (by decide) rfl dX1_addCourse_90 ?_
        exact rw_l S hr hlk (u4, t) (by rw [r2 _ (by omega)]) r2 hI hS dX1_addCourse_91
      · skip
        refine lv_aload_n S.1 S.2.1 dX1_addCourse_17 rfl (lv_at hl 0 rfl) ?_
        refine g1 S hI 10 rfl 3 (by decide) tw_174 rfl dX1_addCourse_18 ?_
        refine lv_iload S.1 S.2.1 dX1_addCourse_21 (lv_at hl 4 rfl) ?_
        refine lv_aload_n S.1 S.2.1 dX1_addCourse_23 rfl (lv_at hl 0 rfl) ?_
        refine g1 S hI 10 rfl 1 (by decide) tw_172 rfl dX1_addCourse_24 ?_
        refine lv_iload_n S.1 S.2.1 dX1_addCourse_27 rfl (lv_at hl 1 rfl) ?_
        refine lv_iload S.1 S.2.1 dX1_addCourse_28 (lv_at hl 4 rfl) ?_
        refine kX4_costOf S hI hG (by omega) (by omega) hCO tw_446 (rok (by decide)) hl.1 (Nat.le_of_ble_eq_true rfl) dX1_addCourse_30 ?_
        have b5 : co ci i ≤ 1000000 := hCO _ _
        refine lv_ldc S.1 S.2.1 S.2.2.2.1 (S.2.2.2.2 _ tw_447) dX1_addCourse_33 ?_
        refine ly_top (z := nI 1000000) (by decide) ?_
        refine ly_cmge (tgt := 56) S (nI_le1 (by omega) (by omega)) (nI_le2 (by omega) (by omega)) dX1_addCourse_35 (by decide) (fun h6 => ?_) (fun h6 => ?_)
        · skip
          refine lv_lconst (v := 0) S.1 S.2.1 dX1_addCourse_56 (by decide) ?_
          refine ly_topl (z := (jsF w co cw ci z i)) (by unfold jsF; rw [if_neg (by omega)]) ?_
          refine ly_last (ws' := (cW K b w n lap op mu ba la en pr fr co cw (va_up t i (jsF w co cw ci z i)) cl rv rc pj pw ch pl lc tl)) S hI (cD hDis) hS 12 rfl (by omega) (by decide) cs_cj dX1_addCourse_57 (fun H locs hI hS => ?_)
          refine lv_iinc (v := nI (i + 1)) (lv' := [(4, .int (nI (i + 1))), (0, .ref (b 10)), (1, .int (nI ci)), (2, .int (nI z)), (3, .int (nI (2 ^ (w - 1))))]) S.1 S.2.1 dX1_addCourse_58 hl (k := 4) rfl (nJ_in _ _) (by decide) rfl (fun ls hl => ?_)
          refine lv_goto (tgt := 11) S.1 S.2.1 dX1_addCourse_61 (by decide) ?_
          exact ih11 (i + 1) (va_up t i (jsF w co cw ci z i)) _ _ (by omega) (bl_s i2) hI hS (by omega) _ (lv_sub hl [1, 2, 3, 4, 0] rfl)
        · skip
          refine lv_aload_n S.1 S.2.1 dX1_addCourse_38 rfl (lv_at hl 0 rfl) ?_
          refine g1 S hI 10 rfl 2 (by decide) tw_173 rfl dX1_addCourse_39 ?_
          refine lv_aload_n S.1 S.2.1 dX1_addCourse_42 rfl (lv_at hl 0 rfl) ?_
          refine g1 S hI 10 rfl 1 (by decide) tw_172 rfl dX1_addCourse_43 ?_
          refine lv_iload S.1 S.2.1 dX1_addCourse_46 (lv_at hl 4 rfl) ?_
          refine lv_iload_n S.1 S.2.1 dX1_addCourse_48 rfl (lv_at hl 2 rfl) ?_
          refine kX4_apartFrom S hI hG (by omega) (by omega) (by omega) tw_448 (rok (by decide)) hl.1 (Nat.le_of_ble_eq_true rfl) dX1_addCourse_49 ?_
          have b7 : apF w i z < 2 ^ (w - 1) := apF_lt gw1
          refine ly_lald (v := (cw (apF w i z))) S hI 11 rfl (by omega) (by decide) rfl dX1_addCourse_52 ?_
          refine lv_goto (tgt := 57) S.1 S.2.1 dX1_addCourse_53 (by decide) ?_
          refine ly_topl (z := (jsF w co cw ci z i)) (by unfold jsF; rw [if_pos h6]) ?_
          refine ly_last (ws' := (cW K b w n lap op mu ba la en pr fr co cw (va_up t i (jsF w co cw ci z i)) cl rv rc pj pw ch pl lc tl)) S hI (cD hDis) hS 12 rfl (by omega) (by decide) cs_cj dX1_addCourse_57 (fun H locs hI hS => ?_)
          refine lv_iinc (v := nI (i + 1)) (lv' := [(4, .int (nI (i + 1))), (0, .ref (b 10)), (1, .int (nI ci)), (2, .int (nI z)), (3, .int (nI (2 ^ (w - 1))))]) S.1 S.2.1 dX1_addCourse_58 hl (k := 4) rfl (nJ_in _ _) (by decide) rfl (fun ls hl => ?_)
          refine lv_goto (tgt := 11) S.1 S.2.1 dX1_addCourse_61 (by decide) ?_
          exact ih11 (i + 1) (va_up t i (jsF w co cw ci z i)) _ _ (by omega) (bl_s i2) hI hS (by omega) _ (lv_sub hl [1, 2, 3, 4, 0] rfl)
  exact L11 _ 0 cj _ _ (Nat.zero_le _) (fun q hq => absurd hq (Nat.not_lt_zero q)) hI hS (Nat.lt_succ_self _) _ (lv_sub hl [2, 3, 4, 1, 0] rfl)
theorem kX1_addCourse {p : Program} {l : Launch} {e : Env} {R : Room} {s : State} {m : MethodId} {args : Array Value} {below : List Frame} {meth : Method} {c : Code} {H H0 : Heap} {locs : List Loc} {cells slots : Nat} {Q : State → Prop} {cc : ByteArray} {nL index pc : Nat} {own : String} {ls : Array Slot} {rest : List Value} {D : va_G} {K : Nat → ClassId} {b : Nat → Nat} {w n lap : Nat} {op mu ba la en : Nat → Nat} {pr : Nat → Option Nat} {fr : Bool} {co : Nat → Nat → Nat} {cw cj : Nat → Int64} {cl : Nat} {rv : Int64} {rc : Nat} {pj : Nat → Nat → Nat} {pw ch : Nat → Nat} {pl lc : Nat} {tl : Nat → Nat} {ci : Nat} {z : Nat} (S : CallFix p m c cc nL s args lw_tb own) (hI : PI D K (cW K b w n lap op mu ba la en pr fr co cw cj cl rv rc pj pw ch pl lc tl) s H) (hS : va_S (adA b 44) H0 H locs) (hDis : Dis b 44) (hG : GOK w n lap op mu ba la en pr) (hc : ci < 8) (hz1 : 1 ≤ z) (hz2 : z ≤ 3) (hCO : COK co) (hlink : Cond.methodLink own index yX1_addCourse ∈ lw_tb) (hR : RO 3 R cells slots) (hsz : ls.size = nL) (hW : (rest.map fun v => v.category).sum ≤ 8) (hdg : decode cc pc = .ok (.invokevirtual index, 3)) (kk : ∀ (u : (Nat → Int64) × (Nat → Int64)) (H1 : Heap) (locs1 : List Loc), (∀ S, S < 2 ^ (w - 1) → u.1 S = zt (jsF w co cw ci z) (w - 1) S) → PI D K (cW K b w n lap op mu ba la en pr fr co u.1 u.2 cl rv rc pj pw ch pl lc tl) s H1 → va_S (adA b 44) H0 H1 locs1 → H.size ≤ H1.size → (∀ q : Nat, q < H.size → ¬ (adA b 44) q → H1[q]? = H[q]?) → W p l e R s m args below meth c H1 locs1 cells slots Q (F0 m (pc + 3) ls ((.long (zt (jsF w co cw ci z) (w - 1) (2 ^ (w - 1) - 1))) :: rest))) : W p l e R s m args below meth c H locs cells slots Q (F0 m pc ls (.int (nI z) :: .int (nI ci) :: .ref (b 10) :: rest)) :=
  kVX (As := [.int (nI ci), .int (nI z)]) (b := b 10) S (mX1_addCourse l hDis hG hc hz1 hz2 hCO) hlink tw_443 tw_6 tw_47 tw_444 (by show _ ∧ _ ∧ _ = some 2; decide +kernel) (by decide) hR blP (piU hI) (va_recv hI.2 hI.1 (ci := 1) (q0 := 10) rfl rfl) hS (fun _ h => h) hsz rfl hW hdg kk

set_option maxHeartbeats 4000000 in
set_option maxRecDepth 100000 in
theorem mX1_renew (l : Launch) {D : va_G} {K : Nat → ClassId} {b : Nat → Nat} {w n lap : Nat} {op mu ba la en : Nat → Nat} {pr : Nat → Option Nat} {fr : Bool} {co : Nat → Nat → Nat} {cw cj : Nat → Int64} {cl : Nat} {rv : Int64} {rc : Nat} {pj : Nat → Nat → Nat} {pw ch : Nat → Nat} {pl lc : Nat} {tl : Nat → Nat} {z : Nat} (hDis : Dis b 44) (hG : GOK w n lap op mu ba la en pr) (hz1 : 1 ≤ z) (hz2 : z ≤ 3) (hCO : COK co) (hV : fr = true → CoOk w n op mu ba en pr co) (hcl : cl ≤ 3) (hC : 1 ≤ cl → rv = rvS w op mu ba en pr cl n ∧ rc = rcN w op mu ba en pr cl n) : Met l yX1_renew (TWd yX1_renew cX1_renew 3 none) (rmk 5) (va_Pc [.ref (b 10), .int (nI z)] (fun U => PI D K (cW K b w n lap op mu ba la en pr fr co cw cj cl rv rc pj pw ch pl lc tl) U U.heap)) (QX D K (fun u : Bool × (Nat → Nat → Nat) × (Nat → Int64) × (Nat → Int64) × Int64 × Nat => none) (fun u => (cW K b w n lap op mu ba la en pr u.1 u.2.1 u.2.2.1 u.2.2.2.1 z u.2.2.2.2.1 u.2.2.2.2.2 pj pw ch pl lc tl)) (fun u => COK u.2.1 ∧ (u.1 = true → CoOk w n op mu ba en pr u.2.1) ∧ u.2.2.2.2.1 = rvS w op mu ba en pr z n ∧ u.2.2.2.2.2 = rcN w op mu ba en pr z n) (adA b 44)) 0 0 (adA b 44) := by
  refine mt_of (by decide +kernel) (Nat.le_of_ble_eq_true rfl) ?_
  intro p e s m below meth c S hr hlk hI ls hl
  have S : CallFix p m c cX1_renew 3 s ([.ref (b 10), .int (nI z)] : List Value).toArray lw_tb RX1 := S
  have hl : lv_has ls 3 [(0, .ref (b 10)), (1, .int (nI z))] := hl
  have hS : va_S (adA b 44) s.heap s.heap [] := va_S.rf
  obtain ⟨gw1, gw2, gn, gl1, gl2, gop, gmu, gba, gla, gen, gpr, gop2, gmu2, gba2, gla2, gme, gbe, gle, gee⟩ := id hG
  have sw1 : 1 <<< (w - 1) = 2 ^ (w - 1) := Nat.one_shiftLeft _
  have pw1 : 2 ^ (w - 1) ≤ 2 ^ 9 := Nat.pow_le_pow_right (by decide) (by omega)
  have pw2 : 2 ^ (w - 1) ≤ 512 := pw1
  have pw6 : 2 ^ 1 ≤ 2 ^ (w - 1) := Nat.pow_le_pow_right (by decide) (by omega)
  have pw7 : 2 ≤ 2 ^ (w - 1) := pw6
  refine lv_aload_n S.1 S.2.1 dX1_renew_0 rfl (lv_at hl 0 rfl) ?_
  refine g1 S hI 10 rfl 4 (by decide) tw_175 rfl dX1_renew_1 ?_
  refine lv_iload_n S.1 S.2.1 dX1_renew_4 rfl (lv_at hl 1 rfl) ?_
  refine ly_cmne (tgt := 9) S (nI_e2 (by omega) (by omega)) (nI_e1 (by omega) (by omega)) dX1_renew_5 (by decide) (fun h1 => ?_) (fun h1 => ?_)
  · skip
    refine lv_aload_n S.1 S.2.1 dX1_renew_9 rfl (lv_at hl 0 rfl) ?_
    refine g1 S hI 10 rfl 1 (by decide) tw_172 rfl dX1_renew_10 ?_
    refine kX4_renew S hI hS hDis hG hCO hV tw_437 (rok (by decide)) hl.1 (Nat.le_of_ble_eq_true rfl) dX1_renew_13 (fun u2 H locs hu2 hI hS _ _ => ?_)
    obtain ⟨v, ev⟩ : ∃ v, v = u2 := ⟨_, rfl⟩
    rw [← ev] at hI hu2
    obtain ⟨a1, a2⟩ := hu2
    refine lv_aload_n S.1 S.2.1 dX1_renew_16 rfl (lv_at hl 0 rfl) ?_
    refine g1 S hI 10 rfl 2 (by decide) tw_173 rfl dX1_renew_17 ?_
    refine lv_lconst (v := 1) S.1 S.2.1 dX1_renew_20 (by decide) ?_
    refine kJ7_fill_d0a16_cw S hI hS hDis tw_438 (rok (by decide)) hl.1 (Nat.le_of_ble_eq_true rfl) dX1_renew_21 (fun u3 H locs hu3 hI hS _ _ => ?_)
    refine lv_aload_n S.1 S.2.1 dX1_renew_24 rfl (lv_at hl 0 rfl) ?_
    refine lv_lconst (v := 1) S.1 S.2.1 dX1_renew_25 (by decide) ?_
    refine p1 (ws' := (cW K b w n lap op mu ba la en pr true v (lyG cw (fun _ => 1) 512) cj cl 1 rc pj pw ch pl lc tl)) S hI (cD hDis) hS 10 rfl 5 (by decide) tw_176 rfl rfl rfl rfl (Nat.le_of_ble_eq_true rfl) rfl dX1_renew_26 (fun H locs hI hS => ?_)
    refine lv_aload_n S.1 S.2.1 dX1_renew_29 rfl (lv_at hl 0 rfl) ?_
    refine lv_iconst (v := nI 0) S.1 S.2.1 dX1_renew_30 (by decide) ?_
    refine p1 (ws' := (cW K b w n lap op mu ba la en pr true v (lyG cw (fun _ => 1) 512) cj cl 1 0 pj pw ch pl lc tl)) S hI (cD hDis) hS 10 rfl 6 (by decide) tw_178 rfl rfl rfl rfl (Nat.le_of_ble_eq_true rfl) rfl dX1_renew_31 (fun H locs hI hS => ?_)
    refine lv_iconst (v := nI 0) S.1 S.2.1 dX1_renew_34 (by decide) ?_
    refine lv_istore_n (lv' := [(2, .int (nI 0)), (0, .ref (b 10)), (1, .int (nI z))]) S.1 S.2.1 dX1_renew_35 rfl hl (by decide) rfl (fun ls hl => ?_)
    have L36 : ∀ (f36 : Nat) (k : Nat) (t : Nat → Int64) (tj : Nat → Int64) (H : Heap) (locs : List Loc), (k ≤ n) → (∀ S, S < 2 ^ (w - 1) → t S = cwT w op mu ba en pr z k S) → (PI D K (cW K b w n lap op mu ba la en pr true v t tj cl (rvS w op mu ba en pr z k) (rcN w op mu ba en pr z k) pj pw ch pl lc tl) s H) → (va_S (adA b 44) s.heap H locs) → n - k < f36 → ∀ (ls : Array Slot), lv_has ls 3 [(0, .ref (b 10)), (1, .int (nI z)), (2, .int (nI k))] → W p l e (rmk 5) s m ([.ref (b 10), .int (nI z)] : List Value).toArray below meth c H locs 0 0 (MQ below (QX D K (fun u : Bool × (Nat → Nat → Nat) × (Nat → Int64) × (Nat → Int64) × Int64 × Nat => none) (fun u => (cW K b w n lap op mu ba la en pr u.1 u.2.1 u.2.2.1 u.2.2.2.1 z u.2.2.2.2.1 u.2.2.2.2.2 pj pw ch pl lc tl)) (fun u => COK u.2.1 ∧ (u.1 = true → CoOk w n op mu ba en pr u.2.1) ∧ u.2.2.2.2.1 = rvS w op mu ba en pr z n ∧ u.2.2.2.2.2 = rcN w op mu ba en pr z n) (adA b 44)) ([.ref (b 10), .int (nI z)] : List Value).toArray s 0 0 (adA b 44)) (F0 m 36 ls []) := by
      intro f36
      induction f36 with
      | zero =>
        intro k t tj H locs i1 i2 hI hS hm
        exact absurd hm (Nat.not_lt_zero _)
      | succ f36 ih36 =>
        intro k t tj H locs i1 i2 hI hS hm36 ls hl
        have rcl := rcN_le (w := w) (op := op) (mu := mu) (ba := ba) (en := en) (pr := pr) (z := z) k
        refine lv_iload_n S.1 S.2.1 dX1_renew_36 rfl (lv_at hl 2 rfl) ?_
        refine lv_aload_n S.1 S.2.1 dX1_renew_37 rfl (lv_at hl 0 rfl) ?_
        refine g1 S hI 10 rfl 0 (by decide) tw_171 rfl dX1_renew_38 ?_
        refine g6 S hI 1 rfl 4 (by decide) tw_131 rfl dX1_renew_41 ?_
        refine ly_cmge (tgt := 82) S (nI_le1 (by omega) (by omega)) (nI_le2 (by omega) (by omega)) dX1_renew_44 (by decide) (fun h4 => ?_) (fun h4 => ?_)
        · skip
          have ek : k = n := by omega
          refine lv_aload_n S.1 S.2.1 dX1_renew_82 rfl (lv_at hl 0 rfl) ?_
          refine lv_iload_n S.1 S.2.1 dX1_renew_83 rfl (lv_at hl 1 rfl) ?_
          refine p1 (ws' := (cW K b w n lap op mu ba la en pr true v t tj z (rvS w op mu ba en pr z k) (rcN w op mu ba en pr z k) pj pw ch pl lc tl)) S hI (cD hDis) hS 10 rfl 4 (by decide) tw_175 rfl rfl rfl rfl (Nat.le_of_ble_eq_true rfl) rfl dX1_renew_84 (fun H locs hI hS => ?_)
          exact rw_v S hr hlk (true, v, t, tj, rvS w op mu ba en pr z k, rcN w op mu ba en pr z k) rfl ⟨a1, fun _ => a2, by rw [ek], by rw [ek]⟩ hI hS dX1_renew_87
        · skip
          refine lv_aload_n S.1 S.2.1 dX1_renew_47 rfl (lv_at hl 0 rfl) ?_
          refine lv_aload_n S.1 S.2.1 dX1_renew_48 rfl (lv_at hl 0 rfl) ?_
          refine lv_iload_n S.1 S.2.1 dX1_renew_49 rfl (lv_at hl 2 rfl) ?_
          refine lv_iload_n S.1 S.2.1 dX1_renew_50 rfl (lv_at hl 1 rfl) ?_
          refine kX1_addCourse S hI hS hDis hG (by omega) (by omega) (by omega) a1 tw_441 (rok (by decide)) hl.1 (Nat.le_of_ble_eq_true rfl) dX1_renew_51 (fun u5 H locs hu5 hI hS _ _ => ?_)
          have r1 := hu5
          have r2 : ∀ q, q < 2 ^ (w - 1) → jsF w v t k z q = jsF w (fcC w op mu ba en pr) (cwT w op mu ba en pr z k) k z q := fun q hq => by unfold jsF; rw [a2 k q (by omega) hq, i2 _ (apF_lt gw1)]
          have r3 : ∀ S, S < 2 ^ (w - 1) → u5.1 S = cwT w op mu ba en pr z (k + 1) S := fun S hS => by rw [r1 S hS]; exact zt_congr r2 _ S hS
          refine ly_topl (z := (rvS w op mu ba en pr z (k + 1))) (by unfold rvS; exact zt_congr r2 _ _ (by omega)) ?_
          refine p1 (ws' := (cW K b w n lap op mu ba la en pr true v u5.1 u5.2 cl (rvS w op mu ba en pr z (k + 1)) (rcN w op mu ba en pr z k) pj pw ch pl lc tl)) S hI (cD hDis) hS 10 rfl 5 (by decide) tw_176 rfl rfl rfl rfl (Nat.le_of_ble_eq_true rfl) rfl dX1_renew_54 (fun H locs hI hS => ?_)
          refine lv_aload_n S.1 S.2.1 dX1_renew_57 rfl (lv_at hl 0 rfl) ?_
          refine g1 S hI 10 rfl 5 (by decide) tw_176 rfl dX1_renew_58 ?_
          refine lv_lconst (v := 0) S.1 S.2.1 dX1_renew_61 (by decide) ?_
          refine W.lcmp S.1 S.2.1 dX1_renew_62 ?_
          refine ly_ifle (tgt := 76) S (fun q => q) (fun q => q) dX1_renew_63 (by decide) (fun h6 => ?_) (fun h6 => ?_)
          · skip
            rw [rcN_f (lgc_f h6)] at hI
            refine lv_iinc (v := nI (k + 1)) (lv' := [(2, .int (nI (k + 1))), (0, .ref (b 10)), (1, .int (nI z))]) S.1 S.2.1 dX1_renew_76 hl (k := 2) rfl (nJ_in _ _) (by decide) rfl (fun ls hl => ?_)
            refine lv_goto (tgt := 36) S.1 S.2.1 dX1_renew_79 (by decide) ?_
            exact ih36 (k + 1) u5.1 u5.2 _ _ (by omega) r3 hI hS (by omega) _ (lv_sub hl [1, 2, 0] rfl)
          · skip
            refine lv_aload_n S.1 S.2.1 dX1_renew_66 rfl (lv_at hl 0 rfl) ?_
            refine lv_dup S.1 S.2.1 dX1_renew_67 rfl ?_
            refine g1 S hI 10 rfl 6 (by decide) tw_178 rfl dX1_renew_68 ?_
            refine lv_iconst (v := nI 1) S.1 S.2.1 dX1_renew_71 (by decide) ?_
            refine lv_iadd S.1 S.2.1 dX1_renew_72 ?_
            refine ly_top (z := nI ((rcN w op mu ba en pr z k) + 1)) (nI_add _ _) ?_
            refine p1 (ws' := (cW K b w n lap op mu ba la en pr true v u5.1 u5.2 cl (rvS w op mu ba en pr z (k + 1)) ((rcN w op mu ba en pr z k) + 1) pj pw ch pl lc tl)) S hI (cD hDis) hS 10 rfl 6 (by decide) tw_178 rfl rfl rfl rfl (Nat.le_of_ble_eq_true rfl) rfl dX1_renew_73 (fun H locs hI hS => ?_)
            rw [rcN_t (lgc_t h6)] at hI
            refine lv_iinc (v := nI (k + 1)) (lv' := [(2, .int (nI (k + 1))), (0, .ref (b 10)), (1, .int (nI z))]) S.1 S.2.1 dX1_renew_76 hl (k := 2) rfl (nJ_in _ _) (by decide) rfl (fun ls hl => ?_)
            refine lv_goto (tgt := 36) S.1 S.2.1 dX1_renew_79 (by decide) ?_
            exact ih36 (k + 1) u5.1 u5.2 _ _ (by omega) r3 hI hS (by omega) _ (lv_sub hl [1, 2, 0] rfl)
    exact L36 _ 0 (lyG cw (fun _ => 1) 512) cj _ _ (by omega) (fun S hS => by unfold lyG; rw [if_pos (by omega)]; rfl) hI hS (Nat.lt_succ_self _) _ (lv_sub hl [1, 2, 0] rfl)
  · skip
    obtain rfl : cl = z := h1
    exact rw_v S hr hlk (fr, co, cw, cj, rv, rc) rfl ⟨hCO, hV, (hC hz1).1, (hC hz1).2⟩ hI hS dX1_renew_8
theorem kX1_renew {p : Program} {l : Launch} {e : Env} {R : Room} {s : State} {m : MethodId} {args : Array Value} {below : List Frame} {meth : Method} {c : Code} {H H0 : Heap} {locs : List Loc} {cells slots : Nat} {Q : State → Prop} {cc : ByteArray} {nL index pc : Nat} {own : String} {ls : Array Slot} {rest : List Value} {D : va_G} {K : Nat → ClassId} {b : Nat → Nat} {w n lap : Nat} {op mu ba la en : Nat → Nat} {pr : Nat → Option Nat} {fr : Bool} {co : Nat → Nat → Nat} {cw cj : Nat → Int64} {cl : Nat} {rv : Int64} {rc : Nat} {pj : Nat → Nat → Nat} {pw ch : Nat → Nat} {pl lc : Nat} {tl : Nat → Nat} {z : Nat} (S : CallFix p m c cc nL s args lw_tb own) (hI : PI D K (cW K b w n lap op mu ba la en pr fr co cw cj cl rv rc pj pw ch pl lc tl) s H) (hS : va_S (adA b 44) H0 H locs) (hDis : Dis b 44) (hG : GOK w n lap op mu ba la en pr) (hz1 : 1 ≤ z) (hz2 : z ≤ 3) (hCO : COK co) (hV : fr = true → CoOk w n op mu ba en pr co) (hcl : cl ≤ 3) (hC : 1 ≤ cl → rv = rvS w op mu ba en pr cl n ∧ rc = rcN w op mu ba en pr cl n) (hlink : Cond.methodLink own index yX1_renew ∈ lw_tb) (hR : RO 5 R cells slots) (hsz : ls.size = nL) (hW : (rest.map fun v => v.category).sum ≤ 8) (hdg : decode cc pc = .ok (.invokevirtual index, 3)) (kk : ∀ (u : Bool × (Nat → Nat → Nat) × (Nat → Int64) × (Nat → Int64) × Int64 × Nat) (H1 : Heap) (locs1 : List Loc), (COK u.2.1 ∧ (u.1 = true → CoOk w n op mu ba en pr u.2.1) ∧ u.2.2.2.2.1 = rvS w op mu ba en pr z n ∧ u.2.2.2.2.2 = rcN w op mu ba en pr z n) → PI D K (cW K b w n lap op mu ba la en pr u.1 u.2.1 u.2.2.1 u.2.2.2.1 z u.2.2.2.2.1 u.2.2.2.2.2 pj pw ch pl lc tl) s H1 → va_S (adA b 44) H0 H1 locs1 → H.size ≤ H1.size → (∀ q : Nat, q < H.size → ¬ (adA b 44) q → H1[q]? = H[q]?) → W p l e R s m args below meth c H1 locs1 cells slots Q (F0 m (pc + 3) ls (rest))) : W p l e R s m args below meth c H locs cells slots Q (F0 m pc ls (.int (nI z) :: .ref (b 10) :: rest)) :=
  kVX (As := [.int (nI z)]) (b := b 10) S (mX1_renew l hDis hG hz1 hz2 hCO hV hcl hC) hlink tw_434 tw_435 tw_47 tw_436 (by show _ ∧ _ ∧ _ = some 1; decide +kernel) (by decide) hR blP (piU hI) (va_recv hI.2 hI.1 (ci := 1) (q0 := 10) rfl rfl) hS (fun _ h => h) hsz rfl hW hdg kk

set_option maxHeartbeats 4000000 in
set_option maxRecDepth 100000 in
theorem mX3_isNone (l : Launch) {D : va_G} {K : Nat → ClassId} {b : Nat → Nat} {w n lap : Nat} {op mu ba la en : Nat → Nat} {pr : Nat → Option Nat} {fr : Bool} {co : Nat → Nat → Nat} {cw cj : Nat → Int64} {cl : Nat} {rv : Int64} {rc : Nat} {pj : Nat → Nat → Nat} {pw ch : Nat → Nat} {pl lc : Nat} {tl : Nat → Nat} (hG : GOK w n lap op mu ba la en pr) (hlc : lc ≤ 1000000) : Met l yX3_isNone (TWd yX3_isNone cX3_isNone 1 (some .boolean)) (rmk 0) (va_Pc [.ref (b 13)] (fun U => PI D K (cW K b w n lap op mu ba la en pr fr co cw cj cl rv rc pj pw ch pl lc tl) U U.heap)) (QcRead (bI (decide (1000000 ≤ lc)))) 0 0 (fun _ => False) := by
  refine mt_of (by decide +kernel) (Nat.le_of_ble_eq_true rfl) ?_
  intro p e s m below meth c S hr hlk hI ls hl
  have S : CallFix p m c cX3_isNone 1 s ([.ref (b 13)] : List Value).toArray lw_tb RX3 := S
  have hl : lv_has ls 1 [(0, .ref (b 13))] := hl
  obtain ⟨gw1, gw2, gn, gl1, gl2, gop, gmu, gba, gla, gen, gpr, gop2, gmu2, gba2, gla2, gme, gbe, gle, gee⟩ := id hG
  refine lv_aload_n S.1 S.2.1 dX3_isNone_0 rfl (lv_at hl 0 rfl) ?_
  refine g3 S hI 13 rfl 6 (by decide) tw_209 rfl dX3_isNone_1 ?_
  refine lv_ldc S.1 S.2.1 S.2.2.2.1 (S.2.2.2.2 _ tw_479) dX3_isNone_4 ?_
  refine ly_top (z := nI 1000000) (by decide) ?_
  refine ly_cmlt (tgt := 13) S (nI_l1 (by omega) (by omega)) (nI_l2 (by omega) (by omega)) dX3_isNone_6 (by decide) (fun h1 => ?_) (fun h1 => ?_)
  · skip
    refine lv_iconst (v := nI 0) S.1 S.2.1 dX3_isNone_13 (by decide) ?_
    exact rt_z0 S hr hlk (by simp; omega) dX3_isNone_14
  · skip
    refine lv_iconst (v := nI 1) S.1 S.2.1 dX3_isNone_9 (by decide) ?_
    refine lv_goto (tgt := 14) S.1 S.2.1 dX3_isNone_10 (by decide) ?_
    exact rt_z1 S hr hlk (by simp; omega) dX3_isNone_14
theorem kX3_isNone {p : Program} {l : Launch} {e : Env} {R : Room} {s : State} {m : MethodId} {args : Array Value} {below : List Frame} {meth : Method} {c : Code} {H : Heap} {locs : List Loc} {cells slots : Nat} {Q : State → Prop} {cc : ByteArray} {nL index pc : Nat} {own : String} {ls : Array Slot} {rest : List Value} {D : va_G} {K : Nat → ClassId} {b : Nat → Nat} {w n lap : Nat} {op mu ba la en : Nat → Nat} {pr : Nat → Option Nat} {fr : Bool} {co : Nat → Nat → Nat} {cw cj : Nat → Int64} {cl : Nat} {rv : Int64} {rc : Nat} {pj : Nat → Nat → Nat} {pw ch : Nat → Nat} {pl lc : Nat} {tl : Nat → Nat} (S : CallFix p m c cc nL s args lw_tb own) (hI : PI D K (cW K b w n lap op mu ba la en pr fr co cw cj cl rv rc pj pw ch pl lc tl) s H) (hG : GOK w n lap op mu ba la en pr) (hlc : lc ≤ 1000000) (hlink : Cond.methodLink own index yX3_isNone ∈ lw_tb) (hR : RO 0 R cells slots) (hsz : ls.size = nL) (hW : (rest.map fun v => v.category).sum ≤ 8) (hdg : decode cc pc = .ok (.invokevirtual index, 3)) (kk : W p l e R s m args below meth c H locs cells slots Q (F0 m (pc + 3) ls (.int (bI (decide (1000000 ≤ lc))) :: rest))) : W p l e R s m args below meth c H locs cells slots Q (F0 m pc ls (.ref (b 13) :: rest)) :=
  kV (As := []) (b := b 13) S (mX3_isNone l hG hlc) hlink tw_495 tw_496 tw_48 tw_497 (by show _ ∧ _ ∧ _ = some 0; decide +kernel) (by decide) hR blP (piU hI) (va_recv hI.2 hI.1 (ci := 3) (q0 := 13) rfl rfl) hsz rfl hW hdg kk

set_option maxHeartbeats 4000000 in
set_option maxRecDepth 100000 in
theorem mX3_jointsOf (l : Launch) {D : va_G} {K : Nat → ClassId} {b : Nat → Nat} {w n lap : Nat} {op mu ba la en : Nat → Nat} {pr : Nat → Option Nat} {fr : Bool} {co : Nat → Nat → Nat} {cw cj : Nat → Int64} {cl : Nat} {rv : Int64} {rc : Nat} {pj : Nat → Nat → Nat} {pw ch : Nat → Nat} {pl lc : Nat} {tl : Nat → Nat} {ci : Nat} (hG : GOK w n lap op mu ba la en pr) (hc : ci < 8) (hch : ∀ q, ch q < 512) : Met l yX3_jointsOf (TWd yX3_jointsOf cX3_jointsOf 2 (some .int)) (rmk 0) (va_Pc [.ref (b 13), .int (nI ci)] (fun U => PI D K (cW K b w n lap op mu ba la en pr fr co cw cj cl rv rc pj pw ch pl lc tl) U U.heap)) (QcRead (nI (2 * ch ci))) 0 0 (fun _ => False) := by
  refine mt_of (by decide +kernel) (Nat.le_of_ble_eq_true rfl) ?_
  intro p e s m below meth c S hr hlk hI ls hl
  have S : CallFix p m c cX3_jointsOf 2 s ([.ref (b 13), .int (nI ci)] : List Value).toArray lw_tb RX3 := S
  have hl : lv_has ls 2 [(0, .ref (b 13)), (1, .int (nI ci))] := hl
  obtain ⟨gw1, gw2, gn, gl1, gl2, gop, gmu, gba, gla, gen, gpr, gop2, gmu2, gba2, gla2, gme, gbe, gle, gee⟩ := id hG
  have o1 := hch ci
  refine lv_iload_n S.1 S.2.1 dX3_jointsOf_0 rfl (lv_at hl 1 rfl) ?_
  refine ly_iflt (tgt := 13) S (fun q => (nI_n1 (by omega) q : False)) (fun q => nI_n2 q) dX3_jointsOf_1 (by decide) (fun h1 => ?_) (fun h1 => ?_)
  · skip
    exact h1.elim
  · skip
    refine lv_iload_n S.1 S.2.1 dX3_jointsOf_4 rfl (lv_at hl 1 rfl) ?_
    refine lv_aload_n S.1 S.2.1 dX3_jointsOf_5 rfl (lv_at hl 0 rfl) ?_
    refine g3 S hI 13 rfl 4 (by decide) tw_207 rfl dX3_jointsOf_6 ?_
    refine ly_alen (t0 := 0) (v := nI 8) S hI 16 rfl rfl rfl dX3_jointsOf_9 ?_
    refine ly_cmlt (tgt := 17) S (nI_l1 (by omega) (by omega)) (nI_l2 (by omega) (by omega)) dX3_jointsOf_10 (by decide) (fun h2 => ?_) (fun h2 => ?_)
    · skip
      refine lv_aload_n S.1 S.2.1 dX3_jointsOf_17 rfl (lv_at hl 0 rfl) ?_
      refine g3 S hI 13 rfl 4 (by decide) tw_207 rfl dX3_jointsOf_18 ?_
      refine lv_iload_n S.1 S.2.1 dX3_jointsOf_21 rfl (lv_at hl 1 rfl) ?_
      refine ly_iald (v := (nI (ch ci))) S hI 16 rfl (by omega) (by decide) rfl dX3_jointsOf_22 ?_
      refine lv_iconst (v := nI 1) S.1 S.2.1 dX3_jointsOf_23 (by decide) ?_
      refine lv_ishl S.1 S.2.1 dX3_jointsOf_24 ?_
      refine ly_top (z := nI ((ch ci) <<< 1)) (nI_shl (by omega) (by rw [Nat.shiftLeft_eq]; omega)) ?_
      refine ly_top (z := (nI (2 * ch ci))) (by rw [Nat.shiftLeft_eq, Nat.mul_comm]) ?_
      exact rt_i S hr hlk rfl dX3_jointsOf_25
    · skip
      exact absurd h2 (by omega)
theorem kX3_jointsOf {p : Program} {l : Launch} {e : Env} {R : Room} {s : State} {m : MethodId} {args : Array Value} {below : List Frame} {meth : Method} {c : Code} {H : Heap} {locs : List Loc} {cells slots : Nat} {Q : State → Prop} {cc : ByteArray} {nL index pc : Nat} {own : String} {ls : Array Slot} {rest : List Value} {D : va_G} {K : Nat → ClassId} {b : Nat → Nat} {w n lap : Nat} {op mu ba la en : Nat → Nat} {pr : Nat → Option Nat} {fr : Bool} {co : Nat → Nat → Nat} {cw cj : Nat → Int64} {cl : Nat} {rv : Int64} {rc : Nat} {pj : Nat → Nat → Nat} {pw ch : Nat → Nat} {pl lc : Nat} {tl : Nat → Nat} {ci : Nat} (S : CallFix p m c cc nL s args lw_tb own) (hI : PI D K (cW K b w n lap op mu ba la en pr fr co cw cj cl rv rc pj pw ch pl lc tl) s H) (hG : GOK w n lap op mu ba la en pr) (hc : ci < 8) (hch : ∀ q, ch q < 512) (hlink : Cond.methodLink own index yX3_jointsOf ∈ lw_tb) (hR : RO 0 R cells slots) (hsz : ls.size = nL) (hW : (rest.map fun v => v.category).sum ≤ 8) (hdg : decode cc pc = .ok (.invokevirtual index, 3)) (kk : W p l e R s m args below meth c H locs cells slots Q (F0 m (pc + 3) ls (.int (nI (2 * ch ci)) :: rest))) : W p l e R s m args below meth c H locs cells slots Q (F0 m pc ls (.int (nI ci) :: .ref (b 13) :: rest)) :=
  kV (As := [.int (nI ci)]) (b := b 13) S (mX3_jointsOf l hG hc hch) hlink tw_503 tw_504 tw_48 tw_505 (by show _ ∧ _ ∧ _ = some 1; decide +kernel) (by decide) hR blP (piU hI) (va_recv hI.2 hI.1 (ci := 3) (q0 := 13) rfl rfl) hsz rfl hW hdg kk

set_option maxHeartbeats 4000000 in
set_option maxRecDepth 100000 in
theorem mX3_cheapest (l : Launch) {D : va_G} {K : Nat → ClassId} {b : Nat → Nat} {w n lap : Nat} {op mu ba la en : Nat → Nat} {pr : Nat → Option Nat} {fr : Bool} {co : Nat → Nat → Nat} {cw cj : Nat → Int64} {cl : Nat} {rv : Int64} {rc : Nat} {pj : Nat → Nat → Nat} {pw ch : Nat → Nat} {pl lc : Nat} {tl : Nat → Nat} {k9 : Nat} {al : Nat} (hG : GOK w n lap op mu ba la en pr) (hk9 : k9 < 8) (hal : al < 512) (hPJ : COK pj) : Met l yX3_cheapest (TWd yX3_cheapest cX3_cheapest 7 (some .int)) (rmk 2) (va_Pc [.ref (b 13), .ref (b (36 + k9)), .int (nI al)] (fun U => PI D K (cW K b w n lap op mu ba la en pr fr co cw cj cl rv rc pj pw ch pl lc tl) U U.heap)) (QcRead (nI ((chG (pj k9) al (2 ^ (w - 1))).1))) 0 0 (fun _ => False) := by
  refine mt_of (by decide +kernel) (Nat.le_of_ble_eq_true rfl) ?_
  intro p e s m below meth c S hr hlk hI ls hl
  have S : CallFix p m c cX3_cheapest 7 s ([.ref (b 13), .ref (b (36 + k9)), .int (nI al)] : List Value).toArray lw_tb RX3 := S
  have hl : lv_has ls 7 [(0, .ref (b 13)), (1, .ref (b (36 + k9))), (2, .int (nI al))] := hl
  obtain ⟨gw1, gw2, gn, gl1, gl2, gop, gmu, gba, gla, gen, gpr, gop2, gmu2, gba2, gla2, gme, gbe, gle, gee⟩ := id hG
  refine lv_iconst (v := nI 0) S.1 S.2.1 dX3_cheapest_0 (by decide) ?_
  refine ly_top (z := (nI ((chG (pj k9) al 0).1))) rfl ?_
  refine lv_istore_n (lv' := [(3, .int (nI ((chG (pj k9) al 0).1))), (0, .ref (b 13)), (1, .ref (b (36 + k9))), (2, .int (nI al))]) S.1 S.2.1 dX3_cheapest_1 rfl hl (by decide) rfl (fun ls hl => ?_)
  refine lv_ldc S.1 S.2.1 S.2.2.2.1 (S.2.2.2.2 _ tw_479) dX3_cheapest_2 ?_
  refine ly_top (z := nI 1000000) (by decide) ?_
  refine ly_top (z := (nI ((chG (pj k9) al 0).2))) rfl ?_
  refine lv_istore (lv' := [(4, .int (nI ((chG (pj k9) al 0).2))), (3, .int (nI ((chG (pj k9) al 0).1))), (0, .ref (b 13)), (1, .ref (b (36 + k9))), (2, .int (nI al))]) S.1 S.2.1 dX3_cheapest_4 hl (by decide) rfl (fun ls hl => ?_)
  refine lv_aload_n S.1 S.2.1 dX3_cheapest_6 rfl (lv_at hl 2 rfl) ?_
  refine g3 S hI 13 rfl 0 (by decide) tw_203 rfl dX3_cheapest_7 ?_
  refine kX6_sets S hI hG tw_477 (rok (by decide)) hl.1 (Nat.le_of_ble_eq_true rfl) dX3_cheapest_10 ?_
  have b1 : 2 ^ (w - 1) ≤ 512 := set_le gw2
  have b2 : 2 ≤ 2 ^ (w - 1) := set_ge gw1
  refine lv_istore (lv' := [(5, .int (nI (2 ^ (w - 1)))), (4, .int (nI ((chG (pj k9) al 0).2))), (3, .int (nI ((chG (pj k9) al 0).1))), (0, .ref (b 13)), (1, .ref (b (36 + k9))), (2, .int (nI al))]) S.1 S.2.1 dX3_cheapest_13 hl (by decide) rfl (fun ls hl => ?_)
  refine lv_iconst (v := nI 0) S.1 S.2.1 dX3_cheapest_15 (by decide) ?_
  refine lv_istore (lv' := [(6, .int (nI 0)), (5, .int (nI (2 ^ (w - 1)))), (4, .int (nI ((chG (pj k9) al 0).2))), (3, .int (nI ((chG (pj k9) al 0).1))), (0, .ref (b 13)), (1, .ref (b (36 + k9))), (2, .int (nI al))]) S.1 S.2.1 dX3_cheapest_16 hl (by decide) rfl (fun ls hl => ?_)
  have L18 : ∀ (f18 : Nat) (i : Nat), (i ≤ 2 ^ (w - 1)) → 2 ^ (w - 1) - i < f18 → ∀ (ls : Array Slot), lv_has ls 7 [(0, .ref (b 13)), (1, .ref (b (36 + k9))), (2, .int (nI al)), (3, .int (nI ((chG (pj k9) al i).1))), (4, .int (nI ((chG (pj k9) al i).2))), (5, .int (nI (2 ^ (w - 1)))), (6, .int (nI i))] → W p l e (rmk 2) s m ([.ref (b 13), .ref (b (36 + k9)), .int (nI al)] : List Value).toArray below meth c s.heap [] 0 0 (MQ below (QcRead (nI ((chG (pj k9) al (2 ^ (w - 1))).1))) ([.ref (b 13), .ref (b (36 + k9)), .int (nI al)] : List Value).toArray s 0 0 (fun _ => False)) (F0 m 18 ls []) := by
    intro f18
    induction f18 with
    | zero =>
      intro i i1 hm
      exact absurd hm (Nat.not_lt_zero _)
    | succ f18 ih18 =>
      intro i i1 hm18 ls hl
      have o1 := hPJ k9 i
      have o2 := (chG_le (f := pj k9) (al := al) i)
      refine lv_iload S.1 S.2.1 dX3_cheapest_18 (lv_at hl 6 rfl) ?_
      refine lv_iload S.1 S.2.1 dX3_cheapest_20 (lv_at hl 5 rfl) ?_
      refine ly_cmge (tgt := 58) S (nI_le1 (by omega) (by omega)) (nI_le2 (by omega) (by omega)) dX3_cheapest_22 (by decide) (fun h3 => ?_) (fun h3 => ?_)
      · skip
        refine lv_iload_n S.1 S.2.1 dX3_cheapest_58 rfl (lv_at hl 3 rfl) ?_
        exact rt_i S hr hlk (by rw [show i = 2 ^ (w - 1) by omega]) dX3_cheapest_59
      · skip
        refine lv_iload S.1 S.2.1 dX3_cheapest_25 (lv_at hl 6 rfl) ?_
        refine lv_iload_n S.1 S.2.1 dX3_cheapest_27 rfl (lv_at hl 2 rfl) ?_
        refine lv_iconst (v := (-1)) S.1 S.2.1 dX3_cheapest_28 (by decide) ?_
        refine lv_ixor S.1 S.2.1 dX3_cheapest_29 ?_
        refine lv_iand S.1 S.2.1 dX3_cheapest_30 ?_
        refine ly_top (z := (nI (ndf i al))) (nI_andn (by omega) (by omega)) ?_
        refine ly_ifne (tgt := 52) S (nI_z2 (ndf_lt (by omega))) (nI_z1 (ndf_lt (by omega))) dX3_cheapest_31 (by decide) (fun h4 => ?_) (fun h4 => ?_)
        · skip
          have ec := chG_f1 (f := pj k9) h4
          rw [← ec] at hl
          refine lv_iinc (v := nI (i + 1)) (lv' := [(6, .int (nI (i + 1))), (0, .ref (b 13)), (1, .ref (b (36 + k9))), (2, .int (nI al)), (3, .int (nI ((chG (pj k9) al (i + 1)).1))), (4, .int (nI ((chG (pj k9) al (i + 1)).2))), (5, .int (nI (2 ^ (w - 1))))]) S.1 S.2.1 dX3_cheapest_52 hl (k := 6) rfl (nJ_in _ _) (by decide) rfl (fun ls hl => ?_)
          refine lv_goto (tgt := 18) S.1 S.2.1 dX3_cheapest_55 (by decide) ?_
          exact ih18 (i + 1) (by omega) (by omega) _ (lv_sub hl [1, 2, 3, 4, 5, 6, 0] rfl)
        · skip
          refine lv_aload_n S.1 S.2.1 dX3_cheapest_34 rfl (lv_at hl 1 rfl) ?_
          refine lv_iload S.1 S.2.1 dX3_cheapest_35 (lv_at hl 6 rfl) ?_
          refine ly_iald (v := (nI (pj k9 i))) S hI (36 + k9) (cw_pj (by omega)) (by omega) (by decide) rfl dX3_cheapest_37 ?_
          refine lv_iload S.1 S.2.1 dX3_cheapest_38 (lv_at hl 4 rfl) ?_
          refine ly_cmge (tgt := 52) S (nI_le1 (by omega) (by omega)) (nI_le2 (by omega) (by omega)) dX3_cheapest_40 (by decide) (fun h5 => ?_) (fun h5 => ?_)
          · skip
            have ec := chG_f2 (f := pj k9) h5
            rw [← ec] at hl
            refine lv_iinc (v := nI (i + 1)) (lv' := [(6, .int (nI (i + 1))), (0, .ref (b 13)), (1, .ref (b (36 + k9))), (2, .int (nI al)), (3, .int (nI ((chG (pj k9) al (i + 1)).1))), (4, .int (nI ((chG (pj k9) al (i + 1)).2))), (5, .int (nI (2 ^ (w - 1))))]) S.1 S.2.1 dX3_cheapest_52 hl (k := 6) rfl (nJ_in _ _) (by decide) rfl (fun ls hl => ?_)
            refine lv_goto (tgt := 18) S.1 S.2.1 dX3_cheapest_55 (by decide) ?_
            exact ih18 (i + 1) (by omega) (by omega) _ (lv_sub hl [1, 2, 3, 4, 5, 6, 0] rfl)
          · skip
            have ec := chG_t (f := pj k9) h4 h5
            refine lv_iload S.1 S.2.1 dX3_cheapest_43 (lv_at hl 6 rfl) ?_
            refine ly_top (z := (nI ((chG (pj k9) al (i + 1)).1))) (by rw [ec]) ?_
            refine lv_istore_n (lv' := [(3, .int (nI ((chG (pj k9) al (i + 1)).1))), (0, .ref (b 13)), (1, .ref (b (36 + k9))), (2, .int (nI al)), (4, .int (nI ((chG (pj k9) al i).2))), (5, .int (nI (2 ^ (w - 1)))), (6, .int (nI i))]) S.1 S.2.1 dX3_cheapest_45 rfl hl (by decide) rfl (fun ls hl => ?_)
            refine lv_aload_n S.1 S.2.1 dX3_cheapest_46 rfl (lv_at hl 2 rfl) ?_
            refine lv_iload S.1 S.2.1 dX3_cheapest_47 (lv_at hl 6 rfl) ?_
            refine ly_iald (v := (nI (pj k9 i))) S hI (36 + k9) (cw_pj (by omega)) (by omega) (by decide) rfl dX3_cheapest_49 ?_
            refine ly_top (z := (nI ((chG (pj k9) al (i + 1)).2))) (by rw [ec]) ?_
            refine lv_istore (lv' := [(4, .int (nI ((chG (pj k9) al (i + 1)).2))), (3, .int (nI ((chG (pj k9) al (i + 1)).1))), (0, .ref (b 13)), (1, .ref (b (36 + k9))), (2, .int (nI al)), (5, .int (nI (2 ^ (w - 1)))), (6, .int (nI i))]) S.1 S.2.1 dX3_cheapest_50 hl (by decide) rfl (fun ls hl => ?_)
            refine lv_iinc (v := nI (i + 1)) (lv' := [(6, .int (nI (i + 1))), (4, .int (nI ((chG (pj k9) al (i + 1)).2))), (3, .int (nI ((chG (pj k9) al (i + 1)).1))), (0, .ref (b 13)), (1, .ref (b (36 + k9))), (2, .int (nI al)), (5, .int (nI (2 ^ (w - 1))))]) S.1 S.2.1 dX3_cheapest_52 hl (k := 6) rfl (nJ_in _ _) (by decide) rfl (fun ls hl => ?_)
            refine lv_goto (tgt := 18) S.1 S.2.1 dX3_cheapest_55 (by decide) ?_
            exact ih18 (i + 1) (by omega) (by omega) _ (lv_sub hl [3, 4, 5, 2, 1, 6, 0] rfl)
  exact L18 _ 0 (Nat.zero_le _) (Nat.lt_succ_self _) _ (lv_sub hl [4, 5, 6, 3, 2, 1, 0] rfl)
theorem kX3_cheapest {p : Program} {l : Launch} {e : Env} {R : Room} {s : State} {m : MethodId} {args : Array Value} {below : List Frame} {meth : Method} {c : Code} {H : Heap} {locs : List Loc} {cells slots : Nat} {Q : State → Prop} {cc : ByteArray} {nL index pc : Nat} {own : String} {ls : Array Slot} {rest : List Value} {D : va_G} {K : Nat → ClassId} {b : Nat → Nat} {w n lap : Nat} {op mu ba la en : Nat → Nat} {pr : Nat → Option Nat} {fr : Bool} {co : Nat → Nat → Nat} {cw cj : Nat → Int64} {cl : Nat} {rv : Int64} {rc : Nat} {pj : Nat → Nat → Nat} {pw ch : Nat → Nat} {pl lc : Nat} {tl : Nat → Nat} {k9 : Nat} {al : Nat} (S : CallFix p m c cc nL s args lw_tb own) (hI : PI D K (cW K b w n lap op mu ba la en pr fr co cw cj cl rv rc pj pw ch pl lc tl) s H) (hG : GOK w n lap op mu ba la en pr) (hk9 : k9 < 8) (hal : al < 512) (hPJ : COK pj) (hlink : Cond.methodLink own index yX3_cheapest ∈ lw_tb) (hR : RO 2 R cells slots) (hsz : ls.size = nL) (hW : (rest.map fun v => v.category).sum ≤ 8) (hdg : decode cc pc = .ok (.invokevirtual index, 3)) (kk : W p l e R s m args below meth c H locs cells slots Q (F0 m (pc + 3) ls (.int (nI ((chG (pj k9) al (2 ^ (w - 1))).1)) :: rest))) : W p l e R s m args below meth c H locs cells slots Q (F0 m pc ls (.int (nI al) :: .ref (b (36 + k9)) :: .ref (b 13) :: rest)) :=
  kV (As := [.ref (b (36 + k9)), .int (nI al)]) (b := b 13) S (mX3_cheapest l hG hk9 hal hPJ) hlink tw_492 tw_11 tw_48 tw_493 (by show _ ∧ _ ∧ _ = some 2; decide +kernel) (by decide) hR blP (piU hI) (va_recv hI.2 hI.1 (ci := 3) (q0 := 13) rfl rfl) hsz rfl hW hdg kk

set_option maxHeartbeats 4000000 in
set_option maxRecDepth 100000 in
theorem mX3_weighCourse (l : Launch) {D : va_G} {K : Nat → ClassId} {b : Nat → Nat} {w n lap : Nat} {op mu ba la en : Nat → Nat} {pr : Nat → Option Nat} {fr : Bool} {co : Nat → Nat → Nat} {cw cj : Nat → Int64} {cl : Nat} {rv : Int64} {rc : Nat} {pj : Nat → Nat → Nat} {pw ch : Nat → Nat} {pl lc : Nat} {tl : Nat → Nat} {ci : Nat} {z : Nat} (hDis : Dis b 44) (hG : GOK w n lap op mu ba la en pr) (hc : ci < 8) (hz1 : 1 ≤ z) (hz2 : z ≤ 3) (hCO : COK co) (hPJ : COK pj) (hB : ∀ S, pw S ≤ 1000000) : Met l yX3_weighCourse (TWd yX3_weighCourse cX3_weighCourse 7 none) (rmk 3) (va_Pc [.ref (b 13), .int (nI ci), .ref (b (36 + ci)), .int (nI z)] (fun U => PI D K (cW K b w n lap op mu ba la en pr fr co cw cj cl rv rc pj pw ch pl lc tl) U U.heap)) (QX D K (fun u : (Nat → Nat → Nat) × (Nat → Nat) => none) (fun u => (cW K b w n lap op mu ba la en pr fr co cw cj cl rv rc u.1 u.2 ch pl lc tl)) (fun u => COt ci pj u.1 ∧ (∀ q, q < 2 ^ (w - 1) → u.1 ci q = pjF w co pw ci z q) ∧ (∀ S, S < 2 ^ (w - 1) → u.2 S = zm (pjF w co pw ci z) (w - 1) S) ∧ ∀ S, u.2 S ≤ 1000000) (adA b 44)) 0 0 (adA b 44) := by
  refine mt_of (by decide +kernel) (Nat.le_of_ble_eq_true rfl) ?_
  intro p e s m below meth c S hr hlk hI ls hl
  have S : CallFix p m c cX3_weighCourse 7 s ([.ref (b 13), .int (nI ci), .ref (b (36 + ci)), .int (nI z)] : List Value).toArray lw_tb RX3 := S
  have hl : lv_has ls 7 [(0, .ref (b 13)), (1, .int (nI ci)), (2, .ref (b (36 + ci))), (3, .int (nI z))] := hl
  have hS : va_S (adA b 44) s.heap s.heap [] := va_S.rf
  obtain ⟨gw1, gw2, gn, gl1, gl2, gop, gmu, gba, gla, gen, gpr, gop2, gmu2, gba2, gla2, gme, gbe, gle, gee⟩ := id hG
  refine lv_aload_n S.1 S.2.1 dX3_weighCourse_0 rfl (lv_at hl 0 rfl) ?_
  refine g3 S hI 13 rfl 0 (by decide) tw_203 rfl dX3_weighCourse_1 ?_
  refine kX6_sets S hI hG tw_477 (rok (by decide)) hl.1 (Nat.le_of_ble_eq_true rfl) dX3_weighCourse_4 ?_
  have b1 : 2 ^ (w - 1) ≤ 512 := set_le gw2
  have b2 : 2 ≤ 2 ^ (w - 1) := set_ge gw1
  refine lv_istore (lv' := [(4, .int (nI (2 ^ (w - 1)))), (0, .ref (b 13)), (1, .int (nI ci)), (2, .ref (b (36 + ci))), (3, .int (nI z))]) S.1 S.2.1 dX3_weighCourse_7 hl (by decide) rfl (fun ls hl => ?_)
  refine lv_iconst (v := nI 0) S.1 S.2.1 dX3_weighCourse_9 (by decide) ?_
  refine lv_istore (lv' := [(5, .int (nI 0)), (4, .int (nI (2 ^ (w - 1)))), (0, .ref (b 13)), (1, .int (nI ci)), (2, .ref (b (36 + ci))), (3, .int (nI z))]) S.1 S.2.1 dX3_weighCourse_10 hl (by decide) rfl (fun ls hl => ?_)
  have L12 : ∀ (f12 : Nat) (i : Nat) (t : Nat → Nat → Nat) (H : Heap) (locs : List Loc), (i ≤ 2 ^ (w - 1)) → (COt ci pj t) → (∀ q, q < i → t ci q = pjF w co pw ci z q) → (PI D K (cW K b w n lap op mu ba la en pr fr co cw cj cl rv rc t pw ch pl lc tl) s H) → (va_S (adA b 44) s.heap H locs) → 2 ^ (w - 1) - i < f12 → ∀ (ls : Array Slot), lv_has ls 7 [(0, .ref (b 13)), (1, .int (nI ci)), (2, .ref (b (36 + ci))), (3, .int (nI z)), (4, .int (nI (2 ^ (w - 1)))), (5, .int (nI i))] → W p l e (rmk 3) s m ([.ref (b 13), .int (nI ci), .ref (b (36 + ci)), .int (nI z)] : List Value).toArray below meth c H locs 0 0 (MQ below (QX D K (fun u : (Nat → Nat → Nat) × (Nat → Nat) => none) (fun u => (cW K b w n lap op mu ba la en pr fr co cw cj cl rv rc u.1 u.2 ch pl lc tl)) (fun u => COt ci pj u.1 ∧ (∀ q, q < 2 ^ (w - 1) → u.1 ci q = pjF w co pw ci z q) ∧ (∀ S, S < 2 ^ (w - 1) → u.2 S = zm (pjF w co pw ci z) (w - 1) S) ∧ ∀ S, u.2 S ≤ 1000000) (adA b 44)) ([.ref (b 13), .int (nI ci), .ref (b (36 + ci)), .int (nI z)] : List Value).toArray s 0 0 (adA b 44)) (F0 m 12 ls []) := by
    intro f12
    induction f12 with
    | zero =>
      intro i t H locs i1 i2 i3 hI hS hm
      exact absurd hm (Nat.not_lt_zero _)
    | succ f12 ih12 =>
      intro i t H locs i1 i2 i3 hI hS hm12 ls hl
      refine lv_iload S.1 S.2.1 dX3_weighCourse_12 (lv_at hl 5 rfl) ?_
      refine lv_iload S.1 S.2.1 dX3_weighCourse_14 (lv_at hl 4 rfl) ?_
      refine ly_cmge (tgt := 64) S (nI_le1 (by omega) (by omega)) (nI_le2 (by omega) (by omega)) dX3_weighCourse_16 (by decide) (fun h3 => ?_) (fun h3 => ?_)
      · skip
        refine lv_aload_n S.1 S.2.1 dX3_weighCourse_64 rfl (lv_at hl 2 rfl) ?_
        refine lv_iconst (v := nI 0) S.1 S.2.1 dX3_weighCourse_65 (by decide) ?_
        refine lv_aload_n S.1 S.2.1 dX3_weighCourse_66 rfl (lv_at hl 0 rfl) ?_
        refine g3 S hI 13 rfl 3 (by decide) tw_206 rfl dX3_weighCourse_67 ?_
        refine lv_iconst (v := nI 0) S.1 S.2.1 dX3_weighCourse_70 (by decide) ?_
        refine lv_iload S.1 S.2.1 dX3_weighCourse_71 (lv_at hl 4 rfl) ?_
        refine ly_copyi (ws' := (cW K b w n lap op mu ba la en pr fr co cw cj cl rv rc t (va_cpy (t ci) pw 0 0 (2 ^ (w - 1))) ch pl lc tl)) S tw_481 (rok (by decide)) hl.1 hI (cD hDis) hS (36 + ci) 15 (cw_pj (by omega)) rfl (by omega) (by omega) (by omega) (by rw [cpy_nI]; rfl) dX3_weighCourse_73 (fun H locs hI hS => ?_)
        have e1 : ∀ q, q < 2 ^ (w - 1) → va_cpy (t ci) pw 0 0 (2 ^ (w - 1)) q = pjF w co pw ci z q := fun q hq => by rw [cpy_lt hq]; exact i3 q (by omega)
        refine lv_aload_n S.1 S.2.1 dX3_weighCourse_76 rfl (lv_at hl 0 rfl) ?_
        refine lv_iload S.1 S.2.1 dX3_weighCourse_77 (lv_at hl 4 rfl) ?_
        refine kX3_takeLeastOfSubsets S hI hS hDis hG (cpy_le (i2.2 ci) hB) tw_482 (rok (by decide)) hl.1 (Nat.le_of_ble_eq_true rfl) dX3_weighCourse_79 (fun u4 H locs hu4 hI hS _ _ => ?_)
        have r1 := hu4
        exact rw_v S hr hlk (t, u4) rfl ⟨i2, fun q hq => i3 q (by omega), fun S hS => (r1.1 S hS).trans (zm_congr e1 _ S hS), r1.2⟩ hI hS dX3_weighCourse_82
      · skip
        refine lv_aload_n S.1 S.2.1 dX3_weighCourse_19 rfl (lv_at hl 0 rfl) ?_
        refine g3 S hI 13 rfl 1 (by decide) tw_204 rfl dX3_weighCourse_20 ?_
        refine lv_iload_n S.1 S.2.1 dX3_weighCourse_23 rfl (lv_at hl 1 rfl) ?_
        refine lv_iload S.1 S.2.1 dX3_weighCourse_24 (lv_at hl 5 rfl) ?_
        refine kX4_costOf S hI hG (by omega) (by omega) hCO tw_478 (rok (by decide)) hl.1 (Nat.le_of_ble_eq_true rfl) dX3_weighCourse_26 ?_
        have b5 : co ci i ≤ 1000000 := hCO _ _
        refine lv_istore (lv' := [(6, .int (nI (co ci i))), (0, .ref (b 13)), (1, .int (nI ci)), (2, .ref (b (36 + ci))), (3, .int (nI z)), (4, .int (nI (2 ^ (w - 1)))), (5, .int (nI i))]) S.1 S.2.1 dX3_weighCourse_29 hl (by decide) rfl (fun ls hl => ?_)
        refine lv_aload_n S.1 S.2.1 dX3_weighCourse_31 rfl (lv_at hl 3 rfl) ?_
        refine lv_iload S.1 S.2.1 dX3_weighCourse_32 (lv_at hl 6 rfl) ?_
        refine lv_ldc S.1 S.2.1 S.2.2.2.1 (S.2.2.2.2 _ tw_479) dX3_weighCourse_34 ?_
        refine ly_top (z := nI 1000000) (by decide) ?_
        refine lv_iload S.1 S.2.1 dX3_weighCourse_36 (lv_at hl 0 rfl) ?_
        refine lv_aload_n S.1 S.2.1 dX3_weighCourse_38 rfl (lv_at hl 1 rfl) ?_
        refine g3 S hI 13 rfl 3 (by decide) tw_206 rfl dX3_weighCourse_39 ?_
        refine lv_aload_n S.1 S.2.1 dX3_weighCourse_42 rfl (lv_at hl 1 rfl) ?_
        refine g3 S hI 13 rfl 1 (by decide) tw_204 rfl dX3_weighCourse_43 ?_
        refine lv_iload S.1 S.2.1 dX3_weighCourse_46 (lv_at hl 6 rfl) ?_
        refine lv_iload_n S.1 S.2.1 dX3_weighCourse_48 rfl (lv_at hl 4 rfl) ?_
        refine kX4_apartFrom S hI hG (by omega) (by omega) (by omega) tw_480 (rok (by decide)) hl.1 (Nat.le_of_ble_eq_true rfl) dX3_weighCourse_49 ?_
        have b6 : apF w i z < 2 ^ (w - 1) := apF_lt gw1
        refine ly_iald (v := (nI (pw (apF w i z)))) S hI 15 rfl (by omega) (by decide) rfl dX3_weighCourse_52 ?_
        have o5 := hB (apF w i z)
        refine lv_iadd S.1 S.2.1 dX3_weighCourse_53 ?_
        refine ly_top (z := nI ((co ci i) + (pw (apF w i z)))) (nI_add _ _) ?_
        refine ly_min (x := 1000000) (z := ((co ci i) + (pw (apF w i z)))) S tw_472 (rok (by decide)) hl.1 (Nat.le_of_ble_eq_true rfl) (by omega) (by omega) dX3_weighCourse_54 ?_
        refine ly_iast (ws' := (cW K b w n lap op mu ba la en pr fr co cw cj cl rv rc (va_up t ci (va_up (t ci) i (min 1000000 ((co ci i) + (pw (apF w i z)))))) pw ch pl lc tl)) S hI (cD hDis) hS (36 + ci) (cw_pj (by omega)) (by omega) (by decide) (cs_pj (by omega)) dX3_weighCourse_57 (fun H locs hI hS => ?_)
        refine lv_iinc (v := nI (i + 1)) (lv' := [(5, .int (nI (i + 1))), (6, .int (nI (co ci i))), (0, .ref (b 13)), (1, .int (nI ci)), (2, .ref (b (36 + ci))), (3, .int (nI z)), (4, .int (nI (2 ^ (w - 1))))]) S.1 S.2.1 dX3_weighCourse_58 hl (k := 6) rfl (nJ_in _ _) (by decide) rfl (fun ls hl => ?_)
        refine lv_goto (tgt := 12) S.1 S.2.1 dX3_weighCourse_61 (by decide) ?_
        exact ih12 (i + 1) (va_up t ci (va_up (t ci) i (min 1000000 ((co ci i) + (pw (apF w i z)))))) _ _ (by omega) (COt_up i2 (Nat.min_le_left _ _)) (pj_s i3) hI hS (by omega) _ (lv_sub hl [2, 3, 4, 5, 6, 0] rfl)
  exact L12 _ 0 pj _ _ (Nat.zero_le _) ⟨fun _ _ => rfl, hPJ⟩ (fun q hq => absurd hq (Nat.not_lt_zero q)) hI hS (Nat.lt_succ_self _) _ (lv_sub hl [2, 3, 4, 5, 1, 0] rfl)
theorem kX3_weighCourse {p : Program} {l : Launch} {e : Env} {R : Room} {s : State} {m : MethodId} {args : Array Value} {below : List Frame} {meth : Method} {c : Code} {H H0 : Heap} {locs : List Loc} {cells slots : Nat} {Q : State → Prop} {cc : ByteArray} {nL index pc : Nat} {own : String} {ls : Array Slot} {rest : List Value} {D : va_G} {K : Nat → ClassId} {b : Nat → Nat} {w n lap : Nat} {op mu ba la en : Nat → Nat} {pr : Nat → Option Nat} {fr : Bool} {co : Nat → Nat → Nat} {cw cj : Nat → Int64} {cl : Nat} {rv : Int64} {rc : Nat} {pj : Nat → Nat → Nat} {pw ch : Nat → Nat} {pl lc : Nat} {tl : Nat → Nat} {ci : Nat} {z : Nat} (S : CallFix p m c cc nL s args lw_tb own) (hI : PI D K (cW K b w n lap op mu ba la en pr fr co cw cj cl rv rc pj pw ch pl lc tl) s H) (hS : va_S (adA b 44) H0 H locs) (hDis : Dis b 44) (hG : GOK w n lap op mu ba la en pr) (hc : ci < 8) (hz1 : 1 ≤ z) (hz2 : z ≤ 3) (hCO : COK co) (hPJ : COK pj) (hB : ∀ S, pw S ≤ 1000000) (hlink : Cond.methodLink own index yX3_weighCourse ∈ lw_tb) (hR : RO 3 R cells slots) (hsz : ls.size = nL) (hW : (rest.map fun v => v.category).sum ≤ 8) (hdg : decode cc pc = .ok (.invokevirtual index, 3)) (kk : ∀ (u : (Nat → Nat → Nat) × (Nat → Nat)) (H1 : Heap) (locs1 : List Loc), (COt ci pj u.1 ∧ (∀ q, q < 2 ^ (w - 1) → u.1 ci q = pjF w co pw ci z q) ∧ (∀ S, S < 2 ^ (w - 1) → u.2 S = zm (pjF w co pw ci z) (w - 1) S) ∧ ∀ S, u.2 S ≤ 1000000) → PI D K (cW K b w n lap op mu ba la en pr fr co cw cj cl rv rc u.1 u.2 ch pl lc tl) s H1 → va_S (adA b 44) H0 H1 locs1 → H.size ≤ H1.size → (∀ q : Nat, q < H.size → ¬ (adA b 44) q → H1[q]? = H[q]?) → W p l e R s m args below meth c H1 locs1 cells slots Q (F0 m (pc + 3) ls (rest))) : W p l e R s m args below meth c H locs cells slots Q (F0 m pc ls (.int (nI z) :: .ref (b (36 + ci)) :: .int (nI ci) :: .ref (b 13) :: rest)) :=
  kVX (As := [.int (nI ci), .ref (b (36 + ci)), .int (nI z)]) (b := b 13) S (mX3_weighCourse l hDis hG hc hz1 hz2 hCO hPJ hB) hlink tw_475 tw_8 tw_48 tw_476 (by show _ ∧ _ ∧ _ = some 3; decide +kernel) (by decide) hR blP (piU hI) (va_recv hI.2 hI.1 (ci := 3) (q0 := 13) rfl rfl) hS (fun _ h => h) hsz rfl hW hdg kk

set_option maxHeartbeats 4000000 in
set_option maxRecDepth 100000 in
theorem mX3_choose (l : Launch) {D : va_G} {K : Nat → ClassId} {b : Nat → Nat} {w n lap : Nat} {op mu ba la en : Nat → Nat} {pr : Nat → Option Nat} {fr : Bool} {co : Nat → Nat → Nat} {cw cj : Nat → Int64} {cl : Nat} {rv : Int64} {rc : Nat} {pj : Nat → Nat → Nat} {pw ch : Nat → Nat} {pl lc : Nat} {tl : Nat → Nat} {z : Nat} (hDis : Dis b 44) (hG : GOK w n lap op mu ba la en pr) (hz1 : 1 ≤ z) (hz2 : z ≤ 3) (hPJ : COK pj) (hch : ∀ q, ch q < 512) (hT : ∀ c q, c < n → q < 2 ^ (w - 1) → pj c q = pjT w n op mu ba en pr z c q) : Met l yX3_choose (TWd yX3_choose cX3_choose 4 none) (rmk 3) (va_Pc [.ref (b 13), .int (nI z)] (fun U => PI D K (cW K b w n lap op mu ba la en pr fr co cw cj cl rv rc pj pw ch pl lc tl) U U.heap)) (QX D K (fun u : Nat → Nat => none) (fun u => (cW K b w n lap op mu ba la en pr fr co cw cj cl rv rc pj pw u pl lc tl)) (fun u => (∀ q, q < n → u q = chS w n op mu ba en pr z q) ∧ ∀ q, u q < 512) (adA b 44)) 0 0 (adA b 44) := by
  refine mt_of (by decide +kernel) (Nat.le_of_ble_eq_true rfl) ?_
  intro p e s m below meth c S hr hlk hI ls hl
  have S : CallFix p m c cX3_choose 4 s ([.ref (b 13), .int (nI z)] : List Value).toArray lw_tb RX3 := S
  have hl : lv_has ls 4 [(0, .ref (b 13)), (1, .int (nI z))] := hl
  have hS : va_S (adA b 44) s.heap s.heap [] := va_S.rf
  obtain ⟨gw1, gw2, gn, gl1, gl2, gop, gmu, gba, gla, gen, gpr, gop2, gmu2, gba2, gla2, gme, gbe, gle, gee⟩ := id hG
  refine lv_aload_n S.1 S.2.1 dX3_choose_0 rfl (lv_at hl 0 rfl) ?_
  refine g3 S hI 13 rfl 0 (by decide) tw_203 rfl dX3_choose_1 ?_
  refine kX6_sets S hI hG tw_477 (rok (by decide)) hl.1 (Nat.le_of_ble_eq_true rfl) dX3_choose_4 ?_
  have b1 : 2 ^ (w - 1) ≤ 512 := set_le gw2
  have b2 : 2 ≤ 2 ^ (w - 1) := set_ge gw1
  refine lv_iconst (v := nI 1) S.1 S.2.1 dX3_choose_7 (by decide) ?_
  refine lv_isub S.1 S.2.1 dX3_choose_8 ?_
  refine ly_top (z := nI ((2 ^ (w - 1)) - 1)) (pk_sub (by omega)) ?_
  refine ly_top (z := (nI (alS w n op mu ba en pr z 0))) rfl ?_
  refine lv_istore_n (lv' := [(2, .int (nI (alS w n op mu ba en pr z 0))), (0, .ref (b 13)), (1, .int (nI z))]) S.1 S.2.1 dX3_choose_9 rfl hl (by decide) rfl (fun ls hl => ?_)
  refine lv_iconst (v := nI 0) S.1 S.2.1 dX3_choose_10 (by decide) ?_
  refine lv_istore_n (lv' := [(3, .int (nI 0)), (2, .int (nI (alS w n op mu ba en pr z 0))), (0, .ref (b 13)), (1, .int (nI z))]) S.1 S.2.1 dX3_choose_11 rfl hl (by decide) rfl (fun ls hl => ?_)
  have L12 : ∀ (f12 : Nat) (k : Nat) (t : Nat → Nat) (H : Heap) (locs : List Loc), (k ≤ n) → (∀ q, q < k → t q = chS w n op mu ba en pr z q) → (∀ q, t q < 512) → (PI D K (cW K b w n lap op mu ba la en pr fr co cw cj cl rv rc pj pw t pl lc tl) s H) → (va_S (adA b 44) s.heap H locs) → n - k < f12 → ∀ (ls : Array Slot), lv_has ls 4 [(0, .ref (b 13)), (1, .int (nI z)), (2, .int (nI (alS w n op mu ba en pr z k))), (3, .int (nI k))] → W p l e (rmk 3) s m ([.ref (b 13), .int (nI z)] : List Value).toArray below meth c H locs 0 0 (MQ below (QX D K (fun u : Nat → Nat => none) (fun u => (cW K b w n lap op mu ba la en pr fr co cw cj cl rv rc pj pw u pl lc tl)) (fun u => (∀ q, q < n → u q = chS w n op mu ba en pr z q) ∧ ∀ q, u q < 512) (adA b 44)) ([.ref (b 13), .int (nI z)] : List Value).toArray s 0 0 (adA b 44)) (F0 m 12 ls []) := by
    intro f12
    induction f12 with
    | zero =>
      intro k t H locs i1 i2 i3 hI hS hm
      exact absurd hm (Nat.not_lt_zero _)
    | succ f12 ih12 =>
      intro k t H locs i1 i2 i3 hI hS hm12 ls hl
      have al := alS_lt (n := n) (op := op) (mu := mu) (ba := ba) (en := en) (pr := pr) (z := z) gw1 k
      have cl9 := chS_lt (w := w) (n := n) (op := op) (mu := mu) (ba := ba) (en := en) (pr := pr) (z := z) (c := k)
      refine lv_iload_n S.1 S.2.1 dX3_choose_12 rfl (lv_at hl 3 rfl) ?_
      refine lv_aload_n S.1 S.2.1 dX3_choose_13 rfl (lv_at hl 0 rfl) ?_
      refine g3 S hI 13 rfl 0 (by decide) tw_203 rfl dX3_choose_14 ?_
      refine g6 S hI 1 rfl 4 (by decide) tw_132 rfl dX3_choose_17 ?_
      refine ly_cmge (tgt := 70) S (nI_le1 (by omega) (by omega)) (nI_le2 (by omega) (by omega)) dX3_choose_20 (by decide) (fun h3 => ?_) (fun h3 => ?_)
      · skip
        exact rw_v S hr hlk t rfl ⟨fun q hq => i2 q (by omega), i3⟩ hI hS dX3_choose_70
      · skip
        refine lv_iload_n S.1 S.2.1 dX3_choose_23 rfl (lv_at hl 3 rfl) ?_
        refine lv_aload_n S.1 S.2.1 dX3_choose_24 rfl (lv_at hl 0 rfl) ?_
        refine g3 S hI 13 rfl 2 (by decide) tw_205 rfl dX3_choose_25 ?_
        refine ly_alen (t0 := 4) (v := nI 8) S hI 14 rfl rfl rfl dX3_choose_28 ?_
        refine ly_cmge (tgt := 70) S (nI_le1 (by omega) (by omega)) (nI_le2 (by omega) (by omega)) dX3_choose_29 (by decide) (fun h4 => ?_) (fun h4 => ?_)
        · skip
          exact absurd h4 (by omega)
        · skip
          refine lv_aload_n S.1 S.2.1 dX3_choose_32 rfl (lv_at hl 0 rfl) ?_
          refine g3 S hI 13 rfl 4 (by decide) tw_207 rfl dX3_choose_33 ?_
          refine lv_iload_n S.1 S.2.1 dX3_choose_36 rfl (lv_at hl 3 rfl) ?_
          refine lv_aload_n S.1 S.2.1 dX3_choose_37 rfl (lv_at hl 0 rfl) ?_
          refine lv_aload_n S.1 S.2.1 dX3_choose_38 rfl (lv_at hl 0 rfl) ?_
          refine g3 S hI 13 rfl 2 (by decide) tw_205 rfl dX3_choose_39 ?_
          refine lv_iload_n S.1 S.2.1 dX3_choose_42 rfl (lv_at hl 3 rfl) ?_
          refine ly_aald (t0 := 4) (v := b (36 + k)) S hI 14 rfl rfl rfl (by omega) (by decide) rfl dX3_choose_43 ?_
          refine lv_iload_n S.1 S.2.1 dX3_choose_44 rfl (lv_at hl 2 rfl) ?_
          refine kX3_cheapest S hI hG (by omega) (by omega) hPJ tw_490 (rok (by decide)) hl.1 (Nat.le_of_ble_eq_true rfl) dX3_choose_45 ?_
          have b5 : (chG (pj k) (alS w n op mu ba en pr z k) (2 ^ (w - 1))).1 < 2 ^ (w - 1) := chG_lt _ (by omega)
          refine ly_top (z := (nI (chS w n op mu ba en pr z k))) (by unfold chS; rw [chG_congr _ (fun i hi => hT k i (by omega) hi)]) ?_
          refine ly_iast (ws' := (cW K b w n lap op mu ba la en pr fr co cw cj cl rv rc pj pw (va_up t k (chS w n op mu ba en pr z k)) pl lc tl)) S hI (cD hDis) hS 16 rfl (by omega) (by decide) cs_ch dX3_choose_48 (fun H locs hI hS => ?_)
          refine lv_aload_n S.1 S.2.1 dX3_choose_49 rfl (lv_at hl 0 rfl) ?_
          refine g3 S hI 13 rfl 1 (by decide) tw_204 rfl dX3_choose_50 ?_
          refine lv_aload_n S.1 S.2.1 dX3_choose_53 rfl (lv_at hl 0 rfl) ?_
          refine g3 S hI 13 rfl 4 (by decide) tw_207 rfl dX3_choose_54 ?_
          refine lv_iload_n S.1 S.2.1 dX3_choose_57 rfl (lv_at hl 3 rfl) ?_
          refine ly_iald (v := (nI ((va_up t k (chS w n op mu ba en pr z k)) k))) S hI 16 rfl (by omega) (by decide) rfl dX3_choose_58 ?_
          refine ly_top (z := (nI (chS w n op mu ba en pr z k))) (by rw [ups]) ?_
          refine lv_iload_n S.1 S.2.1 dX3_choose_59 rfl (lv_at hl 1 rfl) ?_
          refine kX4_apartFrom S hI hG (by omega) (by omega) (by omega) tw_480 (rok (by decide)) hl.1 (Nat.le_of_ble_eq_true rfl) dX3_choose_60 ?_
          have b6 : apF w (chS w n op mu ba en pr z k) z < 2 ^ (w - 1) := apF_lt gw1
          refine ly_top (z := (nI (alS w n op mu ba en pr z (k + 1)))) rfl ?_
          refine lv_istore_n (lv' := [(2, .int (nI (alS w n op mu ba en pr z (k + 1)))), (0, .ref (b 13)), (1, .int (nI z)), (3, .int (nI k))]) S.1 S.2.1 dX3_choose_63 rfl hl (by decide) rfl (fun ls hl => ?_)
          refine lv_iinc (v := nI (k + 1)) (lv' := [(3, .int (nI (k + 1))), (2, .int (nI (alS w n op mu ba en pr z (k + 1)))), (0, .ref (b 13)), (1, .int (nI z))]) S.1 S.2.1 dX3_choose_64 hl (k := 3) rfl (nJ_in _ _) (by decide) rfl (fun ls hl => ?_)
          refine lv_goto (tgt := 12) S.1 S.2.1 dX3_choose_67 (by decide) ?_
          exact ih12 (k + 1) (va_up t k (chS w n op mu ba en pr z k)) _ _ (by omega) (bl_s i2) (up_lt i3 (by omega)) hI hS (by omega) _ (lv_sub hl [2, 3, 1, 0] rfl)
  exact L12 _ 0 ch _ _ (by omega) (fun q hq => absurd hq (Nat.not_lt_zero q)) hch hI hS (Nat.lt_succ_self _) _ (lv_sub hl [2, 3, 1, 0] rfl)
theorem kX3_choose {p : Program} {l : Launch} {e : Env} {R : Room} {s : State} {m : MethodId} {args : Array Value} {below : List Frame} {meth : Method} {c : Code} {H H0 : Heap} {locs : List Loc} {cells slots : Nat} {Q : State → Prop} {cc : ByteArray} {nL index pc : Nat} {own : String} {ls : Array Slot} {rest : List Value} {D : va_G} {K : Nat → ClassId} {b : Nat → Nat} {w n lap : Nat} {op mu ba la en : Nat → Nat} {pr : Nat → Option Nat} {fr : Bool} {co : Nat → Nat → Nat} {cw cj : Nat → Int64} {cl : Nat} {rv : Int64} {rc : Nat} {pj : Nat → Nat → Nat} {pw ch : Nat → Nat} {pl lc : Nat} {tl : Nat → Nat} {z : Nat} (S : CallFix p m c cc nL s args lw_tb own) (hI : PI D K (cW K b w n lap op mu ba la en pr fr co cw cj cl rv rc pj pw ch pl lc tl) s H) (hS : va_S (adA b 44) H0 H locs) (hDis : Dis b 44) (hG : GOK w n lap op mu ba la en pr) (hz1 : 1 ≤ z) (hz2 : z ≤ 3) (hPJ : COK pj) (hch : ∀ q, ch q < 512) (hT : ∀ c q, c < n → q < 2 ^ (w - 1) → pj c q = pjT w n op mu ba en pr z c q) (hlink : Cond.methodLink own index yX3_choose ∈ lw_tb) (hR : RO 3 R cells slots) (hsz : ls.size = nL) (hW : (rest.map fun v => v.category).sum ≤ 8) (hdg : decode cc pc = .ok (.invokevirtual index, 3)) (kk : ∀ (u : Nat → Nat) (H1 : Heap) (locs1 : List Loc), ((∀ q, q < n → u q = chS w n op mu ba en pr z q) ∧ ∀ q, u q < 512) → PI D K (cW K b w n lap op mu ba la en pr fr co cw cj cl rv rc pj pw u pl lc tl) s H1 → va_S (adA b 44) H0 H1 locs1 → H.size ≤ H1.size → (∀ q : Nat, q < H.size → ¬ (adA b 44) q → H1[q]? = H[q]?) → W p l e R s m args below meth c H1 locs1 cells slots Q (F0 m (pc + 3) ls (rest))) : W p l e R s m args below meth c H locs cells slots Q (F0 m pc ls (.int (nI z) :: .ref (b 13) :: rest)) :=
  kVX (As := [.int (nI z)]) (b := b 13) S (mX3_choose l hDis hG hz1 hz2 hPJ hch hT) hlink tw_488 tw_10 tw_48 tw_489 (by show _ ∧ _ ∧ _ = some 1; decide +kernel) (by decide) hR blP (piU hI) (va_recv hI.2 hI.1 (ci := 3) (q0 := 13) rfl rfl) hS (fun _ h => h) hsz rfl hW hdg kk

set_option maxHeartbeats 4000000 in
set_option maxRecDepth 100000 in
theorem mX3_renew (l : Launch) {D : va_G} {K : Nat → ClassId} {b : Nat → Nat} {w n lap : Nat} {op mu ba la en : Nat → Nat} {pr : Nat → Option Nat} {fr : Bool} {co : Nat → Nat → Nat} {cw cj : Nat → Int64} {cl : Nat} {rv : Int64} {rc : Nat} {pj : Nat → Nat → Nat} {pw ch : Nat → Nat} {pl lc : Nat} {tl : Nat → Nat} {z : Nat} (hDis : Dis b 44) (hG : GOK w n lap op mu ba la en pr) (hz1 : 1 ≤ z) (hz2 : z ≤ 3) (hCO : COK co) (hV : fr = true → CoOk w n op mu ba en pr co) (hpl : pl ≤ 3) (hPJ : COK pj) (hch : ∀ q, ch q < 512) (hB : ∀ S, pw S ≤ 1000000) (hC : 1 ≤ pl → lc = pwT w n op mu ba en pr pl n (2 ^ (w - 1) - 1) ∧ ∀ q, q < n → ch q = chS w n op mu ba en pr pl q) : Met l yX3_renew (TWd yX3_renew cX3_renew 3 none) (rmk 5) (va_Pc [.ref (b 13), .int (nI z)] (fun U => PI D K (cW K b w n lap op mu ba la en pr fr co cw cj cl rv rc pj pw ch pl lc tl) U U.heap)) (QX D K (fun u : Bool × (Nat → Nat → Nat) × (Nat → Nat → Nat) × (Nat → Nat) × (Nat → Nat) × Nat => none) (fun u => (cW K b w n lap op mu ba la en pr u.1 u.2.1 cw cj cl rv rc u.2.2.1 u.2.2.2.1 u.2.2.2.2.1 z u.2.2.2.2.2 tl)) (fun u => COK u.2.1 ∧ (u.1 = true → CoOk w n op mu ba en pr u.2.1) ∧ COK u.2.2.1 ∧ (∀ S, u.2.2.2.1 S ≤ 1000000) ∧ (∀ q, u.2.2.2.2.1 q < 512) ∧ u.2.2.2.2.2 = pwT w n op mu ba en pr z n (2 ^ (w - 1) - 1) ∧ ∀ q, q < n → u.2.2.2.2.1 q = chS w n op mu ba en pr z q) (adA b 44)) 0 0 (adA b 44) := by
  refine mt_of (by decide +kernel) (Nat.le_of_ble_eq_true rfl) ?_
  intro p e s m below meth c S hr hlk hI ls hl
  have S : CallFix p m c cX3_renew 3 s ([.ref (b 13), .int (nI z)] : List Value).toArray lw_tb RX3 := S
  have hl : lv_has ls 3 [(0, .ref (b 13)), (1, .int (nI z))] := hl
  have hS : va_S (adA b 44) s.heap s.heap [] := va_S.rf
  obtain ⟨gw1, gw2, gn, gl1, gl2, gop, gmu, gba, gla, gen, gpr, gop2, gmu2, gba2, gla2, gme, gbe, gle, gee⟩ := id hG
  have sw1 : 1 <<< (w - 1) = 2 ^ (w - 1) := Nat.one_shiftLeft _
  have pw1 : 2 ^ (w - 1) ≤ 2 ^ 9 := Nat.pow_le_pow_right (by decide) (by omega)
  have pw2 : 2 ^ (w - 1) ≤ 512 := pw1
  have pw6 : 2 ^ 1 ≤ 2 ^ (w - 1) := Nat.pow_le_pow_right (by decide) (by omega)
  have pw7 : 2 ≤ 2 ^ (w - 1) := pw6
  refine lv_aload_n S.1 S.2.1 dX3_renew_0 rfl (lv_at hl 0 rfl) ?_
  refine g3 S hI 13 rfl 5 (by decide) tw_208 rfl dX3_renew_1 ?_
  refine lv_iload_n S.1 S.2.1 dX3_renew_4 rfl (lv_at hl 1 rfl) ?_
  refine ly_cmne (tgt := 9) S (nI_e2 (by omega) (by omega)) (nI_e1 (by omega) (by omega)) dX3_renew_5 (by decide) (fun h1 => ?_) (fun h1 => ?_)
  · skip
    refine lv_aload_n S.1 S.2.1 dX3_renew_9 rfl (lv_at hl 0 rfl) ?_
    refine g3 S hI 13 rfl 1 (by decide) tw_204 rfl dX3_renew_10 ?_
    refine kX4_renew S hI hS hDis hG hCO hV tw_470 (rok (by decide)) hl.1 (Nat.le_of_ble_eq_true rfl) dX3_renew_13 (fun u2 H locs hu2 hI hS _ _ => ?_)
    obtain ⟨v, ev⟩ : ∃ v, v = u2 := ⟨_, rfl⟩
    rw [← ev] at hI hu2
    obtain ⟨a1, a2⟩ := hu2
    refine lv_aload_n S.1 S.2.1 dX3_renew_16 rfl (lv_at hl 0 rfl) ?_
    refine g3 S hI 13 rfl 3 (by decide) tw_206 rfl dX3_renew_17 ?_
    refine lv_iconst (v := nI 0) S.1 S.2.1 dX3_renew_20 (by decide) ?_
    refine kJ7_fill_53178_pw S hI hS hDis tw_471 (rok (by decide)) hl.1 (Nat.le_of_ble_eq_true rfl) dX3_renew_21 (fun u3 H locs hu3 hI hS _ _ => ?_)
    refine lv_aload_n S.1 S.2.1 dX3_renew_24 rfl (lv_at hl 0 rfl) ?_
    refine g3 S hI 13 rfl 0 (by decide) tw_203 rfl dX3_renew_25 ?_
    refine g6 S hI 1 rfl 4 (by decide) tw_132 rfl dX3_renew_28 ?_
    refine lv_aload_n S.1 S.2.1 dX3_renew_31 rfl (lv_at hl 0 rfl) ?_
    refine g3 S hI 13 rfl 2 (by decide) tw_205 rfl dX3_renew_32 ?_
    refine ly_alen (t0 := 4) (v := nI 8) S hI 14 rfl rfl rfl dX3_renew_35 ?_
    refine ly_min (x := n) (z := 8) S tw_472 (rok (by decide)) hl.1 (Nat.le_of_ble_eq_true rfl) (by omega) (by omega) dX3_renew_36 ?_
    refine ly_top (z := (nI n)) (by rw [Nat.min_eq_left (by omega)]) ?_
    refine lv_iconst (v := nI 1) S.1 S.2.1 dX3_renew_39 (by decide) ?_
    refine lv_isub S.1 S.2.1 dX3_renew_40 ?_
    refine lv_istore_n (lv' := [(2, .int ((nI n) - (nI 1))), (0, .ref (b 13)), (1, .int (nI z))]) S.1 S.2.1 dX3_renew_41 rfl hl (by decide) rfl (fun ls hl => ?_)
    have L42 : ∀ (f42 : Nat) (k : Nat) (t : Nat → Nat → Nat) (tp : Nat → Nat) (H : Heap) (locs : List Loc), (k ≤ n) → (COK t) → (∀ S, tp S ≤ 1000000) → (∀ S, S < 2 ^ (w - 1) → tp S = pwT w n op mu ba en pr z (n - k) S) → (∀ c q, k ≤ c → c < n → q < 2 ^ (w - 1) → t c q = pjT w n op mu ba en pr z c q) → (PI D K (cW K b w n lap op mu ba la en pr true v cw cj cl rv rc t tp ch pl lc tl) s H) → (va_S (adA b 44) s.heap H locs) → k < f42 → ∀ (ls : Array Slot), lv_has ls 3 [(0, .ref (b 13)), (1, .int (nI z)), (2, .int ((nI k) - (nI 1)))] → W p l e (rmk 5) s m ([.ref (b 13), .int (nI z)] : List Value).toArray below meth c H locs 0 0 (MQ below (QX D K (fun u : Bool × (Nat → Nat → Nat) × (Nat → Nat → Nat) × (Nat → Nat) × (Nat → Nat) × Nat => none) (fun u => (cW K b w n lap op mu ba la en pr u.1 u.2.1 cw cj cl rv rc u.2.2.1 u.2.2.2.1 u.2.2.2.2.1 z u.2.2.2.2.2 tl)) (fun u => COK u.2.1 ∧ (u.1 = true → CoOk w n op mu ba en pr u.2.1) ∧ COK u.2.2.1 ∧ (∀ S, u.2.2.2.1 S ≤ 1000000) ∧ (∀ q, u.2.2.2.2.1 q < 512) ∧ u.2.2.2.2.2 = pwT w n op mu ba en pr z n (2 ^ (w - 1) - 1) ∧ ∀ q, q < n → u.2.2.2.2.1 q = chS w n op mu ba en pr z q) (adA b 44)) ([.ref (b 13), .int (nI z)] : List Value).toArray s 0 0 (adA b 44)) (F0 m 42 ls []) := by
      intro f42
      induction f42 with
      | zero =>
        intro k t tp H locs i1 i2 i3 i4 i5 hI hS hm
        exact absurd hm (Nat.not_lt_zero _)
      | succ f42 ih42 =>
        intro k t tp H locs i1 i2 i3 i4 i5 hI hS hm42 ls hl
        refine lv_iload_n S.1 S.2.1 dX3_renew_42 rfl (lv_at hl 2 rfl) ?_
        refine ly_iflt (tgt := 64) S (fun q => q) (fun q => q) dX3_renew_43 (by decide) (fun h4 => ?_) (fun h4 => ?_)
        · skip
          have k0 := sub1_lt (by omega) h4
          refine lv_aload_n S.1 S.2.1 dX3_renew_64 rfl (lv_at hl 0 rfl) ?_
          refine lv_aload_n S.1 S.2.1 dX3_renew_65 rfl (lv_at hl 0 rfl) ?_
          refine g3 S hI 13 rfl 3 (by decide) tw_206 rfl dX3_renew_66 ?_
          refine lv_aload_n S.1 S.2.1 dX3_renew_69 rfl (lv_at hl 0 rfl) ?_
          refine g3 S hI 13 rfl 0 (by decide) tw_203 rfl dX3_renew_70 ?_
          refine kX6_sets S hI hG tw_477 (rok (by decide)) hl.1 (Nat.le_of_ble_eq_true rfl) dX3_renew_73 ?_
          have b5 : 2 ^ (w - 1) ≤ 512 := set_le gw2
          have b6 : 2 ≤ 2 ^ (w - 1) := set_ge gw1
          refine lv_iconst (v := nI 1) S.1 S.2.1 dX3_renew_76 (by decide) ?_
          refine lv_isub S.1 S.2.1 dX3_renew_77 ?_
          refine ly_top (z := nI ((2 ^ (w - 1)) - 1)) (pk_sub (by omega)) ?_
          refine ly_iald (v := (nI (tp ((2 ^ (w - 1)) - 1)))) S hI 15 rfl (by omega) (by decide) rfl dX3_renew_78 ?_
          refine ly_top (z := (nI (pwT w n op mu ba en pr z n (2 ^ (w - 1) - 1)))) (by rw [i4 _ (by omega), k0, Nat.sub_zero]) ?_
          refine p3 (ws' := (cW K b w n lap op mu ba la en pr true v cw cj cl rv rc t tp ch pl (pwT w n op mu ba en pr z n (2 ^ (w - 1) - 1)) tl)) S hI (cD hDis) hS 13 rfl 6 (by decide) tw_209 rfl rfl rfl rfl (Nat.le_of_ble_eq_true rfl) rfl dX3_renew_79 (fun H locs hI hS => ?_)
          refine lv_aload_n S.1 S.2.1 dX3_renew_82 rfl (lv_at hl 0 rfl) ?_
          refine lv_iload_n S.1 S.2.1 dX3_renew_83 rfl (lv_at hl 1 rfl) ?_
          refine kX3_choose S hI hS hDis hG (by omega) (by omega) i2 hch (fun c q h1 h2 => i5 c q (by omega) h1 h2) tw_486 (rok (by decide)) hl.1 (Nat.le_of_ble_eq_true rfl) dX3_renew_84 (fun u7 H locs hu7 hI hS _ _ => ?_)
          have c1 := hu7
          refine lv_aload_n S.1 S.2.1 dX3_renew_87 rfl (lv_at hl 0 rfl) ?_
          refine lv_iload_n S.1 S.2.1 dX3_renew_88 rfl (lv_at hl 1 rfl) ?_
          refine p3 (ws' := (cW K b w n lap op mu ba la en pr true v cw cj cl rv rc t tp u7 z (pwT w n op mu ba en pr z n (2 ^ (w - 1) - 1)) tl)) S hI (cD hDis) hS 13 rfl 5 (by decide) tw_208 rfl rfl rfl rfl (Nat.le_of_ble_eq_true rfl) rfl dX3_renew_89 (fun H locs hI hS => ?_)
          exact rw_v S hr hlk (true, v, t, tp, u7, pwT w n op mu ba en pr z n (2 ^ (w - 1) - 1)) rfl ⟨a1, fun _ => a2, i2, i3, c1.2, rfl, c1.1⟩ hI hS dX3_renew_92
        · skip
          have k1 := sub1_ge (by omega) h4
          rw [show (nI k) - (nI 1) = nI (k - 1) from pk_sub k1] at hl
          refine lv_aload_n S.1 S.2.1 dX3_renew_46 rfl (lv_at hl 0 rfl) ?_
          refine lv_iload_n S.1 S.2.1 dX3_renew_47 rfl (lv_at hl 2 rfl) ?_
          refine lv_aload_n S.1 S.2.1 dX3_renew_48 rfl (lv_at hl 0 rfl) ?_
          refine g3 S hI 13 rfl 2 (by decide) tw_205 rfl dX3_renew_49 ?_
          refine lv_iload_n S.1 S.2.1 dX3_renew_52 rfl (lv_at hl 2 rfl) ?_
          refine ly_aald (t0 := 4) (v := b (36 + (k - 1))) S hI 14 rfl rfl rfl (by omega) (by decide) rfl dX3_renew_53 ?_
          refine lv_iload_n S.1 S.2.1 dX3_renew_54 rfl (lv_at hl 1 rfl) ?_
          refine kX3_weighCourse S hI hS hDis hG (by omega) (by omega) (by omega) a1 i2 i3 tw_473 (rok (by decide)) hl.1 (Nat.le_of_ble_eq_true rfl) dX3_renew_55 (fun u8 H locs hu8 hI hS _ _ => ?_)
          have r1 := hu8
          have r2 : ∀ q, q < 2 ^ (w - 1) → pjF w v tp (k - 1) z q = pjF w (fcC w op mu ba en pr) (pwT w n op mu ba en pr z (n - k)) (n - 1 - (n - k)) z q := fun q hq => by unfold pjF; rw [show n - 1 - (n - k) = k - 1 by omega, a2 (k - 1) q (by omega) hq, i4 _ (apF_lt gw1)]
          rw [show nI (k - 1) = (nI k) - (nI 1) from (pk_sub k1).symm] at hl
          refine lv_iinc (v := (nI (k - 1)) - (nI 1)) (lv' := [(2, .int ((nI (k - 1)) - (nI 1))), (0, .ref (b 13)), (1, .int (nI z))]) S.1 S.2.1 dX3_renew_58 hl (k := 2) rfl (im1 k1) (by decide) rfl (fun ls hl => ?_)
          refine lv_goto (tgt := 42) S.1 S.2.1 dX3_renew_61 (by decide) ?_
          exact ih42 (k - 1) u8.1 u8.2 _ _ (by omega) r1.1.2 r1.2.2.2 (fun S hS => by rw [r1.2.2.1 S hS, show n - (k - 1) = (n - k) + 1 by omega]; exact zm_congr r2 _ S hS) (fun c q h1 h2 h3 => if e : c = k - 1 then (by subst e; rw [r1.2.1 q h3, r2 q h3]; unfold pjT; rw [show n - 1 - (n - k) = k - 1 by omega, show n - 1 - (k - 1) = n - k by omega]) else (by rw [r1.1.1 c e]; exact i5 c q (by omega) h2 h3)) hI hS (by omega) _ (lv_sub hl [1, 2, 0] rfl)
    exact L42 _ n pj (lyF pw (fun _ => 0) 512) _ _ (Nat.le_refl _) hPJ (ly_le hB) (fun S hS => by unfold lyF; rw [if_pos (by omega), Nat.sub_self]; rfl) (fun c q h1 h2 => absurd h1 (by omega)) hI hS (Nat.lt_succ_self _) _ (lv_sub hl [1, 2, 0] rfl)
  · skip
    obtain rfl : pl = z := h1
    exact rw_v S hr hlk (fr, co, pj, pw, ch, lc) rfl ⟨hCO, hV, hPJ, hB, hch, (hC hz1).1, (hC hz1).2⟩ hI hS dX3_renew_8
theorem kX3_renew {p : Program} {l : Launch} {e : Env} {R : Room} {s : State} {m : MethodId} {args : Array Value} {below : List Frame} {meth : Method} {c : Code} {H H0 : Heap} {locs : List Loc} {cells slots : Nat} {Q : State → Prop} {cc : ByteArray} {nL index pc : Nat} {own : String} {ls : Array Slot} {rest : List Value} {D : va_G} {K : Nat → ClassId} {b : Nat → Nat} {w n lap : Nat} {op mu ba la en : Nat → Nat} {pr : Nat → Option Nat} {fr : Bool} {co : Nat → Nat → Nat} {cw cj : Nat → Int64} {cl : Nat} {rv : Int64} {rc : Nat} {pj : Nat → Nat → Nat} {pw ch : Nat → Nat} {pl lc : Nat} {tl : Nat → Nat} {z : Nat} (S : CallFix p m c cc nL s args lw_tb own) (hI : PI D K (cW K b w n lap op mu ba la en pr fr co cw cj cl rv rc pj pw ch pl lc tl) s H) (hS : va_S (adA b 44) H0 H locs) (hDis : Dis b 44) (hG : GOK w n lap op mu ba la en pr) (hz1 : 1 ≤ z) (hz2 : z ≤ 3) (hCO : COK co) (hV : fr = true → CoOk w n op mu ba en pr co) (hpl : pl ≤ 3) (hPJ : COK pj) (hch : ∀ q, ch q < 512) (hB : ∀ S, pw S ≤ 1000000) (hC : 1 ≤ pl → lc = pwT w n op mu ba en pr pl n (2 ^ (w - 1) - 1) ∧ ∀ q, q < n → ch q = chS w n op mu ba en pr pl q) (hlink : Cond.methodLink own index yX3_renew ∈ lw_tb) (hR : RO 5 R cells slots) (hsz : ls.size = nL) (hW : (rest.map fun v => v.category).sum ≤ 8) (hdg : decode cc pc = .ok (.invokevirtual index, 3)) (kk : ∀ (u : Bool × (Nat → Nat → Nat) × (Nat → Nat → Nat) × (Nat → Nat) × (Nat → Nat) × Nat) (H1 : Heap) (locs1 : List Loc), (COK u.2.1 ∧ (u.1 = true → CoOk w n op mu ba en pr u.2.1) ∧ COK u.2.2.1 ∧ (∀ S, u.2.2.2.1 S ≤ 1000000) ∧ (∀ q, u.2.2.2.2.1 q < 512) ∧ u.2.2.2.2.2 = pwT w n op mu ba en pr z n (2 ^ (w - 1) - 1) ∧ ∀ q, q < n → u.2.2.2.2.1 q = chS w n op mu ba en pr z q) → PI D K (cW K b w n lap op mu ba la en pr u.1 u.2.1 cw cj cl rv rc u.2.2.1 u.2.2.2.1 u.2.2.2.2.1 z u.2.2.2.2.2 tl) s H1 → va_S (adA b 44) H0 H1 locs1 → H.size ≤ H1.size → (∀ q : Nat, q < H.size → ¬ (adA b 44) q → H1[q]? = H[q]?) → W p l e R s m args below meth c H1 locs1 cells slots Q (F0 m (pc + 3) ls (rest))) : W p l e R s m args below meth c H locs cells slots Q (F0 m pc ls (.int (nI z) :: .ref (b 13) :: rest)) :=
  kVX (As := [.int (nI z)]) (b := b 13) S (mX3_renew l hDis hG hz1 hz2 hCO hV hpl hPJ hch hB hC) hlink tw_467 tw_468 tw_48 tw_469 (by show _ ∧ _ ∧ _ = some 1; decide +kernel) (by decide) hR blP (piU hI) (va_recv hI.2 hI.1 (ci := 3) (q0 := 13) rfl rfl) hS (fun _ h => h) hsz rfl hW hdg kk
