set_option maxHeartbeats 4000000 in
set_option maxRecDepth 100000 in
theorem mX8_hasBest_n (l : Launch) {D : va_G} {K : Nat → ClassId} {a : Nat → Nat} {w n lap : Nat} {op mu ba la en : Nat → Nat} {pr : Nat → Option Nat} {sc : MSc} (hDis : Dis a 13) (hG : GOK w n lap op mu ba la en pr) (hb : bsS w op mu ba en pr n lap = 1000000000) (hsc : SOK sc) : Met l yX8_hasBest (TWd yX8_hasBest cX8_hasBest 5 (some .boolean)) (rmk 8) (va_Pc [.ref (a 0)] (fun U => PI D K (mW K a w n lap op mu ba la en pr sc) U U.heap)) (QX D K (fun u : MSc => some (.int (bI false))) (fun u => (mW K a w n lap op mu ba la en pr u)) (fun u => SOK u) (adA a 13)) 0 0 (adA a 13) := by
  refine mt_of (by decide +kernel) (Nat.le_of_ble_eq_true rfl) ?_
  intro p e s m below meth c S hr hlk hI ls hl
  have S : CallFix p m c cX8_hasBest 5 s ([.ref (a 0)] : List Value).toArray lw_tb RX8 := S
  have hl : lv_has ls 5 [(0, .ref (a 0))] := hl
  have hS : va_S (adA a 13) s.heap s.heap [] := va_S.rf
  obtain ⟨gw1, gw2, gn, gl1, gl2, gop, gmu, gba, gla, gen, gpr, gop2, gmu2, gba2, gla2, gme, gbe, gle, gee⟩ := id hG
  refine lv_aload_n S.1 S.2.1 dX8_hasBest_0 rfl (lv_at hl 0 rfl) ?_
  refine lv_aload_n S.1 S.2.1 dX8_hasBest_1 rfl (lv_at hl 0 rfl) ?_
  refine g8 S hI 0 rfl 8 (by decide) tw_615 rfl dX8_hasBest_2 ?_
  refine kX8_leastCost S hI hS hDis hG (by omega) (by omega) hsc tw_776 (rok (by decide)) hl.1 (Nat.le_of_ble_eq_true rfl) dX8_hasBest_5 (fun u1 H locs hu1 hI hS _ _ => ?_)
  refine lv_istore_n (lv' := [(1, .int (bsI w op mu ba en pr n lap)), (0, .ref (a 0))]) S.1 S.2.1 dX8_hasBest_8 rfl hl (by decide) rfl (fun ls hl => ?_)
  refine lv_iload_n S.1 S.2.1 dX8_hasBest_9 rfl (lv_at hl 0 rfl) ?_
  refine lv_bipush (v := (-9)) S.1 S.2.1 dX8_hasBest_10 (by decide) ?_
  refine ly_cmne (tgt := 17) S (fun q => q) (fun q => q) dX8_hasBest_12 (by decide) (fun h2 => ?_) (fun h2 => ?_)
  · skip
    exact absurd (bsI_n hb) h2
  · skip
    refine lv_iconst (v := nI 0) S.1 S.2.1 dX8_hasBest_15 (by decide) ?_
    exact rw_z (z := false) S hr hlk u1 rfl rfl hu1.2.1 hI hS dX8_hasBest_16
theorem kX8_hasBest_n {p : Program} {l : Launch} {e : Env} {R : Room} {s : State} {m : MethodId} {args : Array Value} {below : List Frame} {meth : Method} {c : Code} {H H0 : Heap} {locs : List Loc} {cells slots : Nat} {Q : State → Prop} {cc : ByteArray} {nL index pc : Nat} {own : String} {ls : Array Slot} {rest : List Value} {D : va_G} {K : Nat → ClassId} {a : Nat → Nat} {w n lap : Nat} {op mu ba la en : Nat → Nat} {pr : Nat → Option Nat} {sc : MSc} (S : CallFix p m c cc nL s args lw_tb own) (hI : PI D K (mW K a w n lap op mu ba la en pr sc) s H) (hS : va_S (adA a 13) H0 H locs) (hDis : Dis a 13) (hG : GOK w n lap op mu ba la en pr) (hb : bsS w op mu ba en pr n lap = 1000000000) (hsc : SOK sc) (hlink : Cond.methodLink own index yX8_hasBest ∈ lw_tb) (hR : RO 8 R cells slots) (hsz : ls.size = nL) (hW : (rest.map fun v => v.category).sum ≤ 8) (hdg : decode cc pc = .ok (.invokevirtual index, 3)) (kk : ∀ (u : MSc) (H1 : Heap) (locs1 : List Loc), (SOK u) → PI D K (mW K a w n lap op mu ba la en pr u) s H1 → va_S (adA a 13) H0 H1 locs1 → H.size ≤ H1.size → (∀ q : Nat, q < H.size → ¬ (adA a 13) q → H1[q]? = H[q]?) → W p l e R s m args below meth c H1 locs1 cells slots Q (F0 m (pc + 3) ls ((.int (bI false)) :: rest))) : W p l e R s m args below meth c H locs cells slots Q (F0 m pc ls (.ref (a 0) :: rest)) :=
  kVX (As := []) (b := a 0) S (mX8_hasBest_n l hDis hG hb hsc) hlink tw_786 tw_33 tw_50 tw_787 (by show _ ∧ _ ∧ _ = some 0; decide +kernel) (by decide) hR blP (piU hI) (va_recv hI.2 hI.1 (ci := 8) (q0 := 0) rfl rfl) hS (fun _ h => h) hsz rfl hW hdg kk

set_option maxHeartbeats 4000000 in
set_option maxRecDepth 100000 in
theorem mX8_hasBest_y (l : Launch) {D : va_G} {K : Nat → ClassId} {a : Nat → Nat} {w n lap : Nat} {op mu ba la en : Nat → Nat} {pr : Nat → Option Nat} {sc : MSc} (hDis : Dis a 13) (hG : GOK w n lap op mu ba la en pr) (hb : bsS w op mu ba en pr n lap ≠ 1000000000) (hsc : SOK sc) : Met l yX8_hasBest (TWd yX8_hasBest cX8_hasBest 5 (some .boolean)) (rmk 8) (va_Pc [.ref (a 0)] (fun U => PI D K (mW K a w n lap op mu ba la en pr sc) U U.heap)) (QX D K (fun u : MSc => some (.int (bI true))) (fun u => (mW K a w n lap op mu ba la en pr u)) (fun u => SOK u ∧ ∀ q, q < n → u.2.2.2.2.1 q = 2 * bsR w op mu ba en pr n lap q) (adA a 13)) 0 0 (adA a 13) := by
  refine mt_of (by decide +kernel) (Nat.le_of_ble_eq_true rfl) ?_
  intro p e s m below meth c S hr hlk hI ls hl
  have S : CallFix p m c cX8_hasBest 5 s ([.ref (a 0)] : List Value).toArray lw_tb RX8 := S
  have hl : lv_has ls 5 [(0, .ref (a 0))] := hl
  have hS : va_S (adA a 13) s.heap s.heap [] := va_S.rf
  obtain ⟨gw1, gw2, gn, gl1, gl2, gop, gmu, gba, gla, gen, gpr, gop2, gmu2, gba2, gla2, gme, gbe, gle, gee⟩ := id hG
  refine lv_aload_n S.1 S.2.1 dX8_hasBest_0 rfl (lv_at hl 0 rfl) ?_
  refine lv_aload_n S.1 S.2.1 dX8_hasBest_1 rfl (lv_at hl 0 rfl) ?_
  refine g8 S hI 0 rfl 8 (by decide) tw_615 rfl dX8_hasBest_2 ?_
  refine kX8_leastCost S hI hS hDis hG (by omega) (by omega) hsc tw_776 (rok (by decide)) hl.1 (Nat.le_of_ble_eq_true rfl) dX8_hasBest_5 (fun u1 H locs hu1 hI hS _ _ => ?_)
  refine lv_istore_n (lv' := [(1, .int (bsI w op mu ba en pr n lap)), (0, .ref (a 0))]) S.1 S.2.1 dX8_hasBest_8 rfl hl (by decide) rfl (fun ls hl => ?_)
  refine lv_iload_n S.1 S.2.1 dX8_hasBest_9 rfl (lv_at hl 0 rfl) ?_
  refine lv_bipush (v := (-9)) S.1 S.2.1 dX8_hasBest_10 (by decide) ?_
  refine ly_cmne (tgt := 17) S (fun q => q) (fun q => q) dX8_hasBest_12 (by decide) (fun h2 => ?_) (fun h2 => ?_)
  · skip
    obtain ⟨v, ev⟩ : ∃ v, v = u1 := ⟨_, rfl⟩
    rw [← ev] at hI hu1
    obtain ⟨a1, a2, a3⟩ := hu1
    rw [show bsI w op mu ba en pr n lap = nI ((bsT w op mu ba en pr n lap 0).1) from bsI_y hb] at hl
    refine lv_iconst (v := nI 0) S.1 S.2.1 dX8_hasBest_17 (by decide) ?_
    refine ly_top (z := (nI ((bsT w op mu ba en pr n lap 0).2))) rfl ?_
    refine lv_istore_n (lv' := [(2, .int (nI ((bsT w op mu ba en pr n lap 0).2))), (1, .int (nI ((bsT w op mu ba en pr n lap 0).1))), (0, .ref (a 0))]) S.1 S.2.1 dX8_hasBest_18 rfl hl (by decide) rfl (fun ls hl => ?_)
    refine lv_iconst (v := nI 0) S.1 S.2.1 dX8_hasBest_19 (by decide) ?_
    refine lv_istore_n (lv' := [(3, .int (nI 0)), (2, .int (nI ((bsT w op mu ba en pr n lap 0).2))), (1, .int (nI ((bsT w op mu ba en pr n lap 0).1))), (0, .ref (a 0))]) S.1 S.2.1 dX8_hasBest_20 rfl hl (by decide) rfl (fun ls hl => ?_)
    have L21 : ∀ (f21 : Nat) (k : Nat) (t : MSc) (H : Heap) (locs : List Loc), (k ≤ n) → (AllOk w op mu ba en pr n lap 0 t) → (SOK t) → (∀ q, q < k → t.2.2.2.2.1 q = 2 * bsR w op mu ba en pr n lap q) → (PI D K (mW K a w n lap op mu ba la en pr t) s H) → (va_S (adA a 13) s.heap H locs) → n - k < f21 → ∀ (ls : Array Slot), lv_has ls 5 [(0, .ref (a 0)), (1, .int (nI ((bsT w op mu ba en pr n lap k).1))), (2, .int (nI ((bsT w op mu ba en pr n lap k).2))), (3, .int (nI k))] → W p l e (rmk 8) s m ([.ref (a 0)] : List Value).toArray below meth c H locs 0 0 (MQ below (QX D K (fun u : MSc => some (.int (bI true))) (fun u => (mW K a w n lap op mu ba la en pr u)) (fun u => SOK u ∧ ∀ q, q < n → u.2.2.2.2.1 q = 2 * bsR w op mu ba en pr n lap q) (adA a 13)) ([.ref (a 0)] : List Value).toArray s 0 0 (adA a 13)) (F0 m 21 ls []) := by
      intro f21
      induction f21 with
      | zero =>
        intro k t H locs i1 i2 i3 i4 hI hS hm
        exact absurd hm (Nat.not_lt_zero _)
      | succ f21 ih21 =>
        intro k t H locs i1 i2 i3 i4 hI hS hm21 ls hl
        have t1 := bsT_le (w := w) (op := op) (mu := mu) (ba := ba) (en := en) (pr := pr) (n := n) (z := lap) k
        have t2 := bsT2_lt (w := w) (op := op) (mu := mu) (ba := ba) (en := en) (pr := pr) (n := n) (z := lap) gw2 gl2 k
        refine lv_iload_n S.1 S.2.1 dX8_hasBest_21 rfl (lv_at hl 3 rfl) ?_
        refine lv_aload_n S.1 S.2.1 dX8_hasBest_22 rfl (lv_at hl 0 rfl) ?_
        refine g8 S hI 0 rfl 1 (by decide) tw_608 rfl dX8_hasBest_23 ?_
        refine ly_cmge (tgt := 126) S (nI_le1 (by omega) (by omega)) (nI_le2 (by omega) (by omega)) dX8_hasBest_26 (by decide) (fun h3 => ?_) (fun h3 => ?_)
        · skip
          refine lv_iconst (v := nI 1) S.1 S.2.1 dX8_hasBest_126 (by decide) ?_
          exact rw_z (z := true) S hr hlk t rfl rfl ⟨i3, fun q hq => i4 q (by omega)⟩ hI hS dX8_hasBest_127
        · skip
          have be := BEx_all hb k h3
          obtain ⟨⟨r1, r2⟩, r3⟩ := i2 k (Nat.zero_le _) h3
          have rl := bsP_lt (op := op) (mu := mu) (ba := ba) (en := en) (pr := pr) (n := n) (z := lap) (c := k) gw2 (bsT w op mu ba en pr n lap k)
          have rle := rws_len (op := op) (mu := mu) (ba := ba) (en := en) (pr := pr) gw2 k
          refine lv_iconst (v := nI 0) S.1 S.2.1 dX8_hasBest_29 (by decide) ?_
          refine lv_istore (lv' := [(4, .int (nI 0)), (0, .ref (a 0)), (1, .int (nI ((bsT w op mu ba en pr n lap k).1))), (2, .int (nI ((bsT w op mu ba en pr n lap k).2))), (3, .int (nI k))]) S.1 S.2.1 dX8_hasBest_30 hl (by decide) rfl (fun ls hl => ?_)
          have L32 : ∀ (f32 : Nat) (j : Nat), (∀ q, q < j → bpr w op mu ba en pr n lap k (bsT w op mu ba en pr n lap k) ((rws w op mu ba en pr k).getD q 0) = false) → (rws w op mu ba en pr k).length - j < f32 → ∀ (ls : Array Slot), lv_has ls 5 [(0, .ref (a 0)), (1, .int (nI ((bsT w op mu ba en pr n lap k).1))), (2, .int (nI ((bsT w op mu ba en pr n lap k).2))), (3, .int (nI k)), (4, .int (nI j))] → W p l e (rmk 8) s m ([.ref (a 0)] : List Value).toArray below meth c H locs 0 0 (MQ below (QX D K (fun u : MSc => some (.int (bI true))) (fun u => (mW K a w n lap op mu ba la en pr u)) (fun u => SOK u ∧ ∀ q, q < n → u.2.2.2.2.1 q = 2 * bsR w op mu ba en pr n lap q) (adA a 13)) ([.ref (a 0)] : List Value).toArray s 0 0 (adA a 13)) (F0 m 32 ls []) := by
            intro f32
            induction f32 with
            | zero =>
              intro j j2 hm
              exact absurd hm (Nat.not_lt_zero _)
            | succ f32 ih32 =>
              intro j j2 hm32 ls hl
              have j1 := ex_lt be.2 j2
              have x1 := (r3 j j1).1
              have x2 := r2 j j1
              have x3 := i3.2.2.1 (512 * k + j)
              have x4 := i3.2.1 (512 * k + j)
              refine lv_aload_n S.1 S.2.1 dX8_hasBest_32 rfl (lv_at hl 0 rfl) ?_
              refine g8 S hI 0 rfl 11 (by decide) tw_618 rfl dX8_hasBest_33 ?_
              refine lv_sipush (v := nI 512) S.1 S.2.1 dX8_hasBest_36 (by decide) ?_
              refine lv_iload_n S.1 S.2.1 dX8_hasBest_39 rfl (lv_at hl 3 rfl) ?_
              refine lv_imul S.1 S.2.1 dX8_hasBest_40 ?_
              refine ly_top (z := nI (512 * k)) (pk_mul _ _) ?_
              refine lv_iload S.1 S.2.1 dX8_hasBest_41 (lv_at hl 4 rfl) ?_
              refine lv_iadd S.1 S.2.1 dX8_hasBest_43 ?_
              refine ly_top (z := nI ((512 * k) + j)) (nI_add _ _) ?_
              refine ly_iald (v := (nI (t.2.2.1 ((512 * k) + j)))) S hI 9 rfl (by omega) (by decide) rfl dX8_hasBest_44 ?_
              refine ly_top (z := (nI (lfS w op mu ba en pr lap (n - 1 - k) k ((rws w op mu ba en pr k).getD j 0)))) (by rw [x1]) ?_
              refine lv_iload_n S.1 S.2.1 dX8_hasBest_45 rfl (lv_at hl 1 rfl) ?_
              refine ly_cmne (tgt := 67) S (nI_e2 (by omega) (by omega)) (nI_e1 (by omega) (by omega)) dX8_hasBest_46 (by decide) (fun h4 => ?_) (fun h4 => ?_)
              · skip
                refine lv_iinc (v := nI (j + 1)) (lv' := [(4, .int (nI (j + 1))), (0, .ref (a 0)), (1, .int (nI ((bsT w op mu ba en pr n lap k).1))), (2, .int (nI ((bsT w op mu ba en pr n lap k).2))), (3, .int (nI k))]) S.1 S.2.1 dX8_hasBest_67 hl (k := 4) rfl (nJ_in _ _) (by decide) rfl (fun ls hl => ?_)
                refine lv_goto (tgt := 32) S.1 S.2.1 dX8_hasBest_70 (by decide) ?_
                exact ih32 (j + 1) (jn_s j2 (bpr_f1 h4)) (by omega) _ (lv_sub hl [1, 2, 3, 4, 0] rfl)
              · skip
                refine lv_aload_n S.1 S.2.1 dX8_hasBest_49 rfl (lv_at hl 0 rfl) ?_
                refine g8 S hI 0 rfl 10 (by decide) tw_617 rfl dX8_hasBest_50 ?_
                refine lv_sipush (v := nI 512) S.1 S.2.1 dX8_hasBest_53 (by decide) ?_
                refine lv_iload_n S.1 S.2.1 dX8_hasBest_56 rfl (lv_at hl 3 rfl) ?_
                refine lv_imul S.1 S.2.1 dX8_hasBest_57 ?_
                refine ly_top (z := nI (512 * k)) (pk_mul _ _) ?_
                refine lv_iload S.1 S.2.1 dX8_hasBest_58 (lv_at hl 4 rfl) ?_
                refine lv_iadd S.1 S.2.1 dX8_hasBest_60 ?_
                refine ly_top (z := nI ((512 * k) + j)) (nI_add _ _) ?_
                refine ly_iald (v := (nI (t.2.1 ((512 * k) + j)))) S hI 8 rfl (by omega) (by decide) rfl dX8_hasBest_61 ?_
                refine ly_top (z := (nI (2 * (rws w op mu ba en pr k).getD j 0))) (by rw [x2]) ?_
                refine lv_iload_n S.1 S.2.1 dX8_hasBest_62 rfl (lv_at hl 2 rfl) ?_
                refine lv_iand S.1 S.2.1 dX8_hasBest_63 ?_
                refine ly_top (z := nI ((2 * (rws w op mu ba en pr k).getD j 0) &&& ((bsT w op mu ba en pr n lap k).2))) (nI_and (by omega) (by omega)) ?_
                refine ly_ifeq (tgt := 73) S (nI_z1 (Nat.lt_of_le_of_lt Nat.and_le_left (by omega))) (nI_z2 (Nat.lt_of_le_of_lt Nat.and_le_left (by omega))) dX8_hasBest_64 (by decide) (fun h5 => ?_) (fun h5 => ?_)
                · skip
                  have eb := bsR_k j1 (bpr_t h4 h5) j2
                  refine lv_aload_n S.1 S.2.1 dX8_hasBest_73 rfl (lv_at hl 0 rfl) ?_
                  refine g8 S hI 0 rfl 13 (by decide) tw_620 rfl dX8_hasBest_74 ?_
                  refine lv_iload_n S.1 S.2.1 dX8_hasBest_77 rfl (lv_at hl 3 rfl) ?_
                  refine lv_aload_n S.1 S.2.1 dX8_hasBest_78 rfl (lv_at hl 0 rfl) ?_
                  refine g8 S hI 0 rfl 10 (by decide) tw_617 rfl dX8_hasBest_79 ?_
                  refine lv_sipush (v := nI 512) S.1 S.2.1 dX8_hasBest_82 (by decide) ?_
                  refine lv_iload_n S.1 S.2.1 dX8_hasBest_85 rfl (lv_at hl 3 rfl) ?_
                  refine lv_imul S.1 S.2.1 dX8_hasBest_86 ?_
                  refine ly_top (z := nI (512 * k)) (pk_mul _ _) ?_
                  refine lv_iload S.1 S.2.1 dX8_hasBest_87 (lv_at hl 4 rfl) ?_
                  refine lv_iadd S.1 S.2.1 dX8_hasBest_89 ?_
                  refine ly_top (z := nI ((512 * k) + j)) (nI_add _ _) ?_
                  refine ly_iald (v := (nI (t.2.1 ((512 * k) + j)))) S hI 8 rfl (by omega) (by decide) rfl dX8_hasBest_90 ?_
                  refine ly_top (z := (nI (2 * bsR w op mu ba en pr n lap k))) (by rw [x2, eb]) ?_
                  refine ly_iast (ws' := (mW K a w n lap op mu ba la en pr (t.1, t.2.1, t.2.2.1, t.2.2.2.1, va_up t.2.2.2.2.1 k (2 * bsR w op mu ba en pr n lap k), t.2.2.2.2.2))) S hI (mD hDis) hS 11 rfl (by omega) (by decide) (ms_11 (sc := t)) dX8_hasBest_91 (fun H locs hI hS => ?_)
                  refine lv_iload_n S.1 S.2.1 dX8_hasBest_92 rfl (lv_at hl 1 rfl) ?_
                  refine lv_aload_n S.1 S.2.1 dX8_hasBest_93 rfl (lv_at hl 0 rfl) ?_
                  refine lv_iload_n S.1 S.2.1 dX8_hasBest_94 rfl (lv_at hl 3 rfl) ?_
                  refine lv_aload_n S.1 S.2.1 dX8_hasBest_95 rfl (lv_at hl 0 rfl) ?_
                  refine g8 S hI 0 rfl 13 (by decide) tw_620 rfl dX8_hasBest_96 ?_
                  refine lv_iload_n S.1 S.2.1 dX8_hasBest_99 rfl (lv_at hl 3 rfl) ?_
                  refine ly_iald (v := (nI ((va_up t.2.2.2.2.1 k (2 * bsR w op mu ba en pr n lap k)) k))) S hI 11 rfl (by omega) (by decide) rfl dX8_hasBest_100 ?_
                  have rl2 : bsR w op mu ba en pr n lap k < 512 := rl
                  refine ly_top (z := (nI (2 * bsR w op mu ba en pr n lap k))) (by rw [ups]) ?_
                  refine kX8_costOf S hI hG (by omega) (by omega) tw_768 (rok (by decide)) hl.1 (Nat.le_of_ble_eq_true rfl) dX8_hasBest_101 ?_
                  have b6 : coF pr w (op k) (2 * bsR w op mu ba en pr n lap k) ≤ 1000 := coF_le gpr gw2 _ _
                  refine lv_isub S.1 S.2.1 dX8_hasBest_104 ?_
                  refine ly_top (z := nI (((bsT w op mu ba en pr n lap k).1) - (coF pr w (op k) (2 * bsR w op mu ba en pr n lap k)))) (pk_sub (BEx_co be)) ?_
                  refine ly_top (z := (nI ((bsT w op mu ba en pr n lap (k + 1)).1))) rfl ?_
                  refine lv_istore_n (lv' := [(1, .int (nI ((bsT w op mu ba en pr n lap (k + 1)).1))), (0, .ref (a 0)), (2, .int (nI ((bsT w op mu ba en pr n lap k).2))), (3, .int (nI k)), (4, .int (nI j))]) S.1 S.2.1 dX8_hasBest_105 rfl hl (by decide) rfl (fun ls hl => ?_)
                  refine lv_aload_n S.1 S.2.1 dX8_hasBest_106 rfl (lv_at hl 1 rfl) ?_
                  refine g8 S hI 0 rfl 13 (by decide) tw_620 rfl dX8_hasBest_107 ?_
                  refine lv_iload_n S.1 S.2.1 dX8_hasBest_110 rfl (lv_at hl 3 rfl) ?_
                  refine ly_iald (v := (nI ((va_up t.2.2.2.2.1 k (2 * bsR w op mu ba en pr n lap k)) k))) S hI 11 rfl (by omega) (by decide) rfl dX8_hasBest_111 ?_
                  refine ly_top (z := (nI (2 * bsR w op mu ba en pr n lap k))) (by rw [ups]) ?_
                  refine lv_aload_n S.1 S.2.1 dX8_hasBest_112 rfl (lv_at hl 1 rfl) ?_
                  refine g8 S hI 0 rfl 8 (by decide) tw_615 rfl dX8_hasBest_113 ?_
                  refine kX8_around S (by omega) (by omega) (by omega) tw_765 (rok (by decide)) hl.1 (Nat.le_of_ble_eq_true rfl) dX8_hasBest_116 ?_
                  have b7 : arG (2 * bsR w op mu ba en pr n lap k) lap < 4096 := arG_lt (by omega) _ (by omega)
                  refine ly_top (z := (nI ((bsT w op mu ba en pr n lap (k + 1)).2))) rfl ?_
                  refine lv_istore_n (lv' := [(2, .int (nI ((bsT w op mu ba en pr n lap (k + 1)).2))), (1, .int (nI ((bsT w op mu ba en pr n lap (k + 1)).1))), (0, .ref (a 0)), (3, .int (nI k)), (4, .int (nI j))]) S.1 S.2.1 dX8_hasBest_119 rfl hl (by decide) rfl (fun ls hl => ?_)
                  refine lv_iinc (v := nI (k + 1)) (lv' := [(3, .int (nI (k + 1))), (2, .int (nI ((bsT w op mu ba en pr n lap (k + 1)).2))), (1, .int (nI ((bsT w op mu ba en pr n lap (k + 1)).1))), (0, .ref (a 0)), (4, .int (nI j))]) S.1 S.2.1 dX8_hasBest_120 hl (k := 3) rfl (nJ_in _ _) (by decide) rfl (fun ls hl => ?_)
                  refine lv_goto (tgt := 21) S.1 S.2.1 dX8_hasBest_123 (by decide) ?_
                  exact ih21 (k + 1) (t.1, t.2.1, t.2.2.1, t.2.2.2.1, va_up t.2.2.2.2.1 k (2 * bsR w op mu ba en pr n lap k), t.2.2.2.2.2) _ _ (by omega) i2 (SOK_bt i3 rl) (bt_s i4) hI hS (by omega) _ (lv_sub hl [3, 2, 1, 0] rfl)
                · skip
                  refine lv_iinc (v := nI (j + 1)) (lv' := [(4, .int (nI (j + 1))), (0, .ref (a 0)), (1, .int (nI ((bsT w op mu ba en pr n lap k).1))), (2, .int (nI ((bsT w op mu ba en pr n lap k).2))), (3, .int (nI k))]) S.1 S.2.1 dX8_hasBest_67 hl (k := 4) rfl (nJ_in _ _) (by decide) rfl (fun ls hl => ?_)
                  refine lv_goto (tgt := 32) S.1 S.2.1 dX8_hasBest_70 (by decide) ?_
                  exact ih32 (j + 1) (jn_s j2 (bpr_f2 h5)) (by omega) _ (lv_sub hl [1, 2, 3, 4, 0] rfl)
          exact L32 _ 0 (fun q hq => absurd hq (Nat.not_lt_zero q)) (Nat.lt_succ_self _) _ (lv_sub hl [1, 2, 3, 4, 0] rfl)
    exact L21 _ 0 v _ _ (Nat.zero_le _) a1 a2 (fun q hq => absurd hq (Nat.not_lt_zero q)) hI hS (Nat.lt_succ_self _) _ (lv_sub hl [3, 2, 1, 0] rfl)
  · skip
    exact absurd h2 (by rw [bsI_y hb]; exact nI_m9 (Nat.lt_of_le_of_lt bsS_le (by decide)))
theorem kX8_hasBest_y {p : Program} {l : Launch} {e : Env} {R : Room} {s : State} {m : MethodId} {args : Array Value} {below : List Frame} {meth : Method} {c : Code} {H H0 : Heap} {locs : List Loc} {cells slots : Nat} {Q : State → Prop} {cc : ByteArray} {nL index pc : Nat} {own : String} {ls : Array Slot} {rest : List Value} {D : va_G} {K : Nat → ClassId} {a : Nat → Nat} {w n lap : Nat} {op mu ba la en : Nat → Nat} {pr : Nat → Option Nat} {sc : MSc} (S : CallFix p m c cc nL s args lw_tb own) (hI : PI D K (mW K a w n lap op mu ba la en pr sc) s H) (hS : va_S (adA a 13) H0 H locs) (hDis : Dis a 13) (hG : GOK w n lap op mu ba la en pr) (hb : bsS w op mu ba en pr n lap ≠ 1000000000) (hsc : SOK sc) (hlink : Cond.methodLink own index yX8_hasBest ∈ lw_tb) (hR : RO 8 R cells slots) (hsz : ls.size = nL) (hW : (rest.map fun v => v.category).sum ≤ 8) (hdg : decode cc pc = .ok (.invokevirtual index, 3)) (kk : ∀ (u : MSc) (H1 : Heap) (locs1 : List Loc), (SOK u ∧ ∀ q, q < n → u.2.2.2.2.1 q = 2 * bsR w op mu ba en pr n lap q) → PI D K (mW K a w n lap op mu ba la en pr u) s H1 → va_S (adA a 13) H0 H1 locs1 → H.size ≤ H1.size → (∀ q : Nat, q < H.size → ¬ (adA a 13) q → H1[q]? = H[q]?) → W p l e R s m args below meth c H1 locs1 cells slots Q (F0 m (pc + 3) ls ((.int (bI true)) :: rest))) : W p l e R s m args below meth c H locs cells slots Q (F0 m pc ls (.ref (a 0) :: rest)) :=
  kVX (As := []) (b := a 0) S (mX8_hasBest_y l hDis hG hb hsc) hlink tw_786 tw_33 tw_50 tw_787 (by show _ ∧ _ ∧ _ = some 0; decide +kernel) (by decide) hR blP (piU hI) (va_recv hI.2 hI.1 (ci := 8) (q0 := 0) rfl rfl) hS (fun _ h => h) hsz rfl hW hdg kk

set_option maxHeartbeats 4000000 in
set_option maxRecDepth 100000 in
theorem mX8_bestRow_a (l : Launch) {D : va_G} {K : Nat → ClassId} {a : Nat → Nat} {w n lap : Nat} {op mu ba la en : Nat → Nat} {pr : Nat → Option Nat} {sc : MSc} {v : Int32} (hG : GOK w n lap op mu ba la en pr) (hv : wiI v 0 (nI n - 1) = false) : Met l yX8_bestRow (TWd yX8_bestRow cX8_bestRow 2 (some .int)) (rmk 9) (va_Pc [.ref (a 0), .int v] (fun U => PI D K (mW K a w n lap op mu ba la en pr sc) U U.heap)) (QcRead ((-1))) 0 0 (fun _ => False) := by
  refine mt_of (by decide +kernel) (Nat.le_of_ble_eq_true rfl) ?_
  intro p e s m below meth c S hr hlk hI ls hl
  have S : CallFix p m c cX8_bestRow 2 s ([.ref (a 0), .int v] : List Value).toArray lw_tb RX8 := S
  have hl : lv_has ls 2 [(0, .ref (a 0)), (1, .int v)] := hl
  obtain ⟨gw1, gw2, gn, gl1, gl2, gop, gmu, gba, gla, gen, gpr, gop2, gmu2, gba2, gla2, gme, gbe, gle, gee⟩ := id hG
  refine lv_aload_n S.1 S.2.1 dX8_bestRow_0 rfl (lv_at hl 0 rfl) ?_
  refine lv_iload_n S.1 S.2.1 dX8_bestRow_1 rfl (lv_at hl 1 rfl) ?_
  refine kX8_isCourse S hI hG tw_673 (rok (by decide)) hl.1 (Nat.le_of_ble_eq_true rfl) dX8_bestRow_2 ?_
  refine ly_ifne (tgt := 10) S bI_e2 bI_e1 dX8_bestRow_5 (by decide) (fun h1 => ?_) (fun h1 => ?_)
  · skip
    exact absurd h1 (by rw [hv]; decide)
  · skip
    refine lv_iconst (v := (-1)) S.1 S.2.1 dX8_bestRow_8 (by decide) ?_
    exact rt_i S hr hlk rfl dX8_bestRow_9
theorem kX8_bestRow_a {p : Program} {l : Launch} {e : Env} {R : Room} {s : State} {m : MethodId} {args : Array Value} {below : List Frame} {meth : Method} {c : Code} {H : Heap} {locs : List Loc} {cells slots : Nat} {Q : State → Prop} {cc : ByteArray} {nL index pc : Nat} {own : String} {ls : Array Slot} {rest : List Value} {D : va_G} {K : Nat → ClassId} {a : Nat → Nat} {w n lap : Nat} {op mu ba la en : Nat → Nat} {pr : Nat → Option Nat} {sc : MSc} {v : Int32} (S : CallFix p m c cc nL s args lw_tb own) (hI : PI D K (mW K a w n lap op mu ba la en pr sc) s H) (hG : GOK w n lap op mu ba la en pr) (hv : wiI v 0 (nI n - 1) = false) (hlink : Cond.methodLink own index yX8_bestRow ∈ lw_tb) (hR : RO 9 R cells slots) (hsz : ls.size = nL) (hW : (rest.map fun v => v.category).sum ≤ 8) (hdg : decode cc pc = .ok (.invokevirtual index, 3)) (kk : W p l e R s m args below meth c H locs cells slots Q (F0 m (pc + 3) ls (.int ((-1)) :: rest))) : W p l e R s m args below meth c H locs cells slots Q (F0 m pc ls (.int v :: .ref (a 0) :: rest)) :=
  kV (As := [.int v]) (b := a 0) S (mX8_bestRow_a l hG hv) hlink tw_781 tw_782 tw_50 tw_783 (by show _ ∧ _ ∧ _ = some 1; decide +kernel) (by decide) hR blP (piU hI) (va_recv hI.2 hI.1 (ci := 8) (q0 := 0) rfl rfl) hsz rfl hW hdg kk

set_option maxHeartbeats 4000000 in
set_option maxRecDepth 100000 in
theorem mX8_bestRow_n (l : Launch) {D : va_G} {K : Nat → ClassId} {a : Nat → Nat} {w n lap : Nat} {op mu ba la en : Nat → Nat} {pr : Nat → Option Nat} {sc : MSc} {ci : Nat} (hDis : Dis a 13) (hG : GOK w n lap op mu ba la en pr) (hc : ci < n) (hb : bsS w op mu ba en pr n lap = 1000000000) (hsc : SOK sc) : Met l yX8_bestRow (TWd yX8_bestRow cX8_bestRow 2 (some .int)) (rmk 9) (va_Pc [.ref (a 0), .int (nI ci)] (fun U => PI D K (mW K a w n lap op mu ba la en pr sc) U U.heap)) (QX D K (fun u : MSc => some (.int (-3))) (fun u => (mW K a w n lap op mu ba la en pr u)) (fun u => SOK u) (adA a 13)) 0 0 (adA a 13) := by
  refine mt_of (by decide +kernel) (Nat.le_of_ble_eq_true rfl) ?_
  intro p e s m below meth c S hr hlk hI ls hl
  have S : CallFix p m c cX8_bestRow 2 s ([.ref (a 0), .int (nI ci)] : List Value).toArray lw_tb RX8 := S
  have hl : lv_has ls 2 [(0, .ref (a 0)), (1, .int (nI ci))] := hl
  have hS : va_S (adA a 13) s.heap s.heap [] := va_S.rf
  obtain ⟨gw1, gw2, gn, gl1, gl2, gop, gmu, gba, gla, gen, gpr, gop2, gmu2, gba2, gla2, gme, gbe, gle, gee⟩ := id hG
  refine lv_aload_n S.1 S.2.1 dX8_bestRow_0 rfl (lv_at hl 0 rfl) ?_
  refine lv_iload_n S.1 S.2.1 dX8_bestRow_1 rfl (lv_at hl 1 rfl) ?_
  refine kX8_isCourse S hI hG tw_673 (rok (by decide)) hl.1 (Nat.le_of_ble_eq_true rfl) dX8_bestRow_2 ?_
  refine ly_ifne (tgt := 10) S bI_e2 bI_e1 dX8_bestRow_5 (by decide) (fun h1 => ?_) (fun h1 => ?_)
  · skip
    refine lv_aload_n S.1 S.2.1 dX8_bestRow_10 rfl (lv_at hl 0 rfl) ?_
    refine kX8_hasBest_n S hI hS hDis hG hb hsc tw_784 (rok (by decide)) hl.1 (Nat.le_of_ble_eq_true rfl) dX8_bestRow_11 (fun u2 H locs hu2 hI hS _ _ => ?_)
    refine ly_ifeq (tgt := 26) S bI_e1 bI_e2 dX8_bestRow_14 (by decide) (fun h3 => ?_) (fun h3 => ?_)
    · skip
      refine lv_bipush (v := (-3)) S.1 S.2.1 dX8_bestRow_26 (by decide) ?_
      exact rw_i S hr hlk u2 rfl hu2 hI hS dX8_bestRow_28
    · skip
      exact absurd h3 (by decide)
  · skip
    exact absurd h1 (by rw [wiC (by omega) (by omega)]; decide)
theorem kX8_bestRow_n {p : Program} {l : Launch} {e : Env} {R : Room} {s : State} {m : MethodId} {args : Array Value} {below : List Frame} {meth : Method} {c : Code} {H H0 : Heap} {locs : List Loc} {cells slots : Nat} {Q : State → Prop} {cc : ByteArray} {nL index pc : Nat} {own : String} {ls : Array Slot} {rest : List Value} {D : va_G} {K : Nat → ClassId} {a : Nat → Nat} {w n lap : Nat} {op mu ba la en : Nat → Nat} {pr : Nat → Option Nat} {sc : MSc} {ci : Nat} (S : CallFix p m c cc nL s args lw_tb own) (hI : PI D K (mW K a w n lap op mu ba la en pr sc) s H) (hS : va_S (adA a 13) H0 H locs) (hDis : Dis a 13) (hG : GOK w n lap op mu ba la en pr) (hc : ci < n) (hb : bsS w op mu ba en pr n lap = 1000000000) (hsc : SOK sc) (hlink : Cond.methodLink own index yX8_bestRow ∈ lw_tb) (hR : RO 9 R cells slots) (hsz : ls.size = nL) (hW : (rest.map fun v => v.category).sum ≤ 8) (hdg : decode cc pc = .ok (.invokevirtual index, 3)) (kk : ∀ (u : MSc) (H1 : Heap) (locs1 : List Loc), (SOK u) → PI D K (mW K a w n lap op mu ba la en pr u) s H1 → va_S (adA a 13) H0 H1 locs1 → H.size ≤ H1.size → (∀ q : Nat, q < H.size → ¬ (adA a 13) q → H1[q]? = H[q]?) → W p l e R s m args below meth c H1 locs1 cells slots Q (F0 m (pc + 3) ls ((.int (-3)) :: rest))) : W p l e R s m args below meth c H locs cells slots Q (F0 m pc ls (.int (nI ci) :: .ref (a 0) :: rest)) :=
  kVX (As := [.int (nI ci)]) (b := a 0) S (mX8_bestRow_n l hDis hG hc hb hsc) hlink tw_781 tw_782 tw_50 tw_783 (by show _ ∧ _ ∧ _ = some 1; decide +kernel) (by decide) hR blP (piU hI) (va_recv hI.2 hI.1 (ci := 8) (q0 := 0) rfl rfl) hS (fun _ h => h) hsz rfl hW hdg kk

set_option maxHeartbeats 4000000 in
set_option maxRecDepth 100000 in
theorem mX8_bestRow_y (l : Launch) {D : va_G} {K : Nat → ClassId} {a : Nat → Nat} {w n lap : Nat} {op mu ba la en : Nat → Nat} {pr : Nat → Option Nat} {sc : MSc} {ci : Nat} (hDis : Dis a 13) (hG : GOK w n lap op mu ba la en pr) (hc : ci < n) (hb : bsS w op mu ba en pr n lap ≠ 1000000000) (hsc : SOK sc) : Met l yX8_bestRow (TWd yX8_bestRow cX8_bestRow 2 (some .int)) (rmk 9) (va_Pc [.ref (a 0), .int (nI ci)] (fun U => PI D K (mW K a w n lap op mu ba la en pr sc) U U.heap)) (QX D K (fun u : MSc => some (.int (nI (2 * bsR w op mu ba en pr n lap ci)))) (fun u => (mW K a w n lap op mu ba la en pr u)) (fun u => SOK u) (adA a 13)) 0 0 (adA a 13) := by
  refine mt_of (by decide +kernel) (Nat.le_of_ble_eq_true rfl) ?_
  intro p e s m below meth c S hr hlk hI ls hl
  have S : CallFix p m c cX8_bestRow 2 s ([.ref (a 0), .int (nI ci)] : List Value).toArray lw_tb RX8 := S
  have hl : lv_has ls 2 [(0, .ref (a 0)), (1, .int (nI ci))] := hl
  have hS : va_S (adA a 13) s.heap s.heap [] := va_S.rf
  obtain ⟨gw1, gw2, gn, gl1, gl2, gop, gmu, gba, gla, gen, gpr, gop2, gmu2, gba2, gla2, gme, gbe, gle, gee⟩ := id hG
  refine lv_aload_n S.1 S.2.1 dX8_bestRow_0 rfl (lv_at hl 0 rfl) ?_
  refine lv_iload_n S.1 S.2.1 dX8_bestRow_1 rfl (lv_at hl 1 rfl) ?_
  refine kX8_isCourse S hI hG tw_673 (rok (by decide)) hl.1 (Nat.le_of_ble_eq_true rfl) dX8_bestRow_2 ?_
  refine ly_ifne (tgt := 10) S bI_e2 bI_e1 dX8_bestRow_5 (by decide) (fun h1 => ?_) (fun h1 => ?_)
  · skip
    refine lv_aload_n S.1 S.2.1 dX8_bestRow_10 rfl (lv_at hl 0 rfl) ?_
    refine kX8_hasBest_y S hI hS hDis hG hb hsc tw_784 (rok (by decide)) hl.1 (Nat.le_of_ble_eq_true rfl) dX8_bestRow_11 (fun u2 H locs hu2 hI hS _ _ => ?_)
    refine ly_ifeq (tgt := 26) S bI_e1 bI_e2 dX8_bestRow_14 (by decide) (fun h3 => ?_) (fun h3 => ?_)
    · skip
      exact absurd h3 (by decide)
    · skip
      refine lv_aload_n S.1 S.2.1 dX8_bestRow_17 rfl (lv_at hl 0 rfl) ?_
      refine g8 S hI 0 rfl 13 (by decide) tw_620 rfl dX8_bestRow_18 ?_
      refine lv_iload_n S.1 S.2.1 dX8_bestRow_21 rfl (lv_at hl 1 rfl) ?_
      refine ly_iald (v := (nI (u2.2.2.2.2.1 ci))) S hI 11 rfl (by omega) (by decide) rfl dX8_bestRow_22 ?_
      refine lv_goto (tgt := 28) S.1 S.2.1 dX8_bestRow_23 (by decide) ?_
      exact rw_i S hr hlk u2 (by rw [hu2.2 ci hc]) hu2.1 hI hS dX8_bestRow_28
  · skip
    exact absurd h1 (by rw [wiC (by omega) (by omega)]; decide)
theorem kX8_bestRow_y {p : Program} {l : Launch} {e : Env} {R : Room} {s : State} {m : MethodId} {args : Array Value} {below : List Frame} {meth : Method} {c : Code} {H H0 : Heap} {locs : List Loc} {cells slots : Nat} {Q : State → Prop} {cc : ByteArray} {nL index pc : Nat} {own : String} {ls : Array Slot} {rest : List Value} {D : va_G} {K : Nat → ClassId} {a : Nat → Nat} {w n lap : Nat} {op mu ba la en : Nat → Nat} {pr : Nat → Option Nat} {sc : MSc} {ci : Nat} (S : CallFix p m c cc nL s args lw_tb own) (hI : PI D K (mW K a w n lap op mu ba la en pr sc) s H) (hS : va_S (adA a 13) H0 H locs) (hDis : Dis a 13) (hG : GOK w n lap op mu ba la en pr) (hc : ci < n) (hb : bsS w op mu ba en pr n lap ≠ 1000000000) (hsc : SOK sc) (hlink : Cond.methodLink own index yX8_bestRow ∈ lw_tb) (hR : RO 9 R cells slots) (hsz : ls.size = nL) (hW : (rest.map fun v => v.category).sum ≤ 8) (hdg : decode cc pc = .ok (.invokevirtual index, 3)) (kk : ∀ (u : MSc) (H1 : Heap) (locs1 : List Loc), (SOK u) → PI D K (mW K a w n lap op mu ba la en pr u) s H1 → va_S (adA a 13) H0 H1 locs1 → H.size ≤ H1.size → (∀ q : Nat, q < H.size → ¬ (adA a 13) q → H1[q]? = H[q]?) → W p l e R s m args below meth c H1 locs1 cells slots Q (F0 m (pc + 3) ls ((.int (nI (2 * bsR w op mu ba en pr n lap ci))) :: rest))) : W p l e R s m args below meth c H locs cells slots Q (F0 m pc ls (.int (nI ci) :: .ref (a 0) :: rest)) :=
  kVX (As := [.int (nI ci)]) (b := a 0) S (mX8_bestRow_y l hDis hG hc hb hsc) hlink tw_781 tw_782 tw_50 tw_783 (by show _ ∧ _ ∧ _ = some 1; decide +kernel) (by decide) hR blP (piU hI) (va_recv hI.2 hI.1 (ci := 8) (q0 := 0) rfl rfl) hS (fun _ h => h) hsz rfl hW hdg kk

set_option maxHeartbeats 4000000 in
set_option maxRecDepth 100000 in
theorem mX8_bestOf_a (l : Launch) {D : va_G} {K : Nat → ClassId} {a : Nat → Nat} {w n lap : Nat} {op mu ba la en : Nat → Nat} {pr : Nat → Option Nat} {sc : MSc} {v : Int32} (hG : GOK w n lap op mu ba la en pr) (hv : wiI v (nI 1) (nI 6) = false) : Met l yX8_bestOf (TWd yX8_bestOf cX8_bestOf 4 (some .int)) (rmk 9) (va_Pc [.ref (a 0), .int v] (fun U => PI D K (mW K a w n lap op mu ba la en pr sc) U U.heap)) (QcRead ((-2))) 0 0 (fun _ => False) := by
  refine mt_of (by decide +kernel) (Nat.le_of_ble_eq_true rfl) ?_
  intro p e s m below meth c S hr hlk hI ls hl
  have S : CallFix p m c cX8_bestOf 4 s ([.ref (a 0), .int v] : List Value).toArray lw_tb RX8 := S
  have hl : lv_has ls 4 [(0, .ref (a 0)), (1, .int v)] := hl
  obtain ⟨gw1, gw2, gn, gl1, gl2, gop, gmu, gba, gla, gen, gpr, gop2, gmu2, gba2, gla2, gme, gbe, gle, gee⟩ := id hG
  refine lv_iload_n S.1 S.2.1 dX8_bestOf_0 rfl (lv_at hl 1 rfl) ?_
  refine lv_iconst (v := nI 1) S.1 S.2.1 dX8_bestOf_1 (by decide) ?_
  refine lv_bipush (v := nI 6) S.1 S.2.1 dX8_bestOf_2 (by decide) ?_
  refine kX8_within S  tw_658 (rok (by decide)) hl.1 (Nat.le_of_ble_eq_true rfl) dX8_bestOf_4 ?_
  refine ly_ifne (tgt := 13) S bI_e2 bI_e1 dX8_bestOf_7 (by decide) (fun h1 => ?_) (fun h1 => ?_)
  · skip
    exact absurd h1 (by rw [hv]; decide)
  · skip
    refine lv_bipush (v := (-2)) S.1 S.2.1 dX8_bestOf_10 (by decide) ?_
    exact rt_i S hr hlk rfl dX8_bestOf_12
theorem kX8_bestOf_a {p : Program} {l : Launch} {e : Env} {R : Room} {s : State} {m : MethodId} {args : Array Value} {below : List Frame} {meth : Method} {c : Code} {H : Heap} {locs : List Loc} {cells slots : Nat} {Q : State → Prop} {cc : ByteArray} {nL index pc : Nat} {own : String} {ls : Array Slot} {rest : List Value} {D : va_G} {K : Nat → ClassId} {a : Nat → Nat} {w n lap : Nat} {op mu ba la en : Nat → Nat} {pr : Nat → Option Nat} {sc : MSc} {v : Int32} (S : CallFix p m c cc nL s args lw_tb own) (hI : PI D K (mW K a w n lap op mu ba la en pr sc) s H) (hG : GOK w n lap op mu ba la en pr) (hv : wiI v (nI 1) (nI 6) = false) (hlink : Cond.methodLink own index yX8_bestOf ∈ lw_tb) (hR : RO 9 R cells slots) (hsz : ls.size = nL) (hW : (rest.map fun v => v.category).sum ≤ 8) (hdg : decode cc pc = .ok (.invokevirtual index, 3)) (kk : W p l e R s m args below meth c H locs cells slots Q (F0 m (pc + 3) ls (.int ((-2)) :: rest))) : W p l e R s m args below meth c H locs cells slots Q (F0 m pc ls (.int v :: .ref (a 0) :: rest)) :=
  kV (As := [.int v]) (b := a 0) S (mX8_bestOf_a l hG hv) hlink tw_789 tw_790 tw_50 tw_791 (by show _ ∧ _ ∧ _ = some 1; decide +kernel) (by decide) hR blP (piU hI) (va_recv hI.2 hI.1 (ci := 8) (q0 := 0) rfl rfl) hsz rfl hW hdg kk

set_option maxHeartbeats 4000000 in
set_option maxRecDepth 100000 in
theorem mX8_bestOf_n (l : Launch) {D : va_G} {K : Nat → ClassId} {a : Nat → Nat} {w n lap : Nat} {op mu ba la en : Nat → Nat} {pr : Nat → Option Nat} {sc : MSc} {L : Nat} (hDis : Dis a 13) (hG : GOK w n lap op mu ba la en pr) (h1L : 1 ≤ L) (h2L : L ≤ 6) (hb : bsS w op mu ba en pr n lap = 1000000000) (hsc : SOK sc) : Met l yX8_bestOf (TWd yX8_bestOf cX8_bestOf 4 (some .int)) (rmk 9) (va_Pc [.ref (a 0), .int (nI L)] (fun U => PI D K (mW K a w n lap op mu ba la en pr sc) U U.heap)) (QX D K (fun u : MSc => some (.int (-3))) (fun u => (mW K a w n lap op mu ba la en pr u)) (fun u => SOK u) (adA a 13)) 0 0 (adA a 13) := by
  refine mt_of (by decide +kernel) (Nat.le_of_ble_eq_true rfl) ?_
  intro p e s m below meth c S hr hlk hI ls hl
  have S : CallFix p m c cX8_bestOf 4 s ([.ref (a 0), .int (nI L)] : List Value).toArray lw_tb RX8 := S
  have hl : lv_has ls 4 [(0, .ref (a 0)), (1, .int (nI L))] := hl
  have hS : va_S (adA a 13) s.heap s.heap [] := va_S.rf
  obtain ⟨gw1, gw2, gn, gl1, gl2, gop, gmu, gba, gla, gen, gpr, gop2, gmu2, gba2, gla2, gme, gbe, gle, gee⟩ := id hG
  refine lv_iload_n S.1 S.2.1 dX8_bestOf_0 rfl (lv_at hl 1 rfl) ?_
  refine lv_iconst (v := nI 1) S.1 S.2.1 dX8_bestOf_1 (by decide) ?_
  refine lv_bipush (v := nI 6) S.1 S.2.1 dX8_bestOf_2 (by decide) ?_
  refine kX8_within S  tw_658 (rok (by decide)) hl.1 (Nat.le_of_ble_eq_true rfl) dX8_bestOf_4 ?_
  refine ly_ifne (tgt := 13) S bI_e2 bI_e1 dX8_bestOf_7 (by decide) (fun h1 => ?_) (fun h1 => ?_)
  · skip
    refine lv_aload_n S.1 S.2.1 dX8_bestOf_13 rfl (lv_at hl 0 rfl) ?_
    refine kX8_hasBest_n S hI hS hDis hG hb hsc tw_784 (rok (by decide)) hl.1 (Nat.le_of_ble_eq_true rfl) dX8_bestOf_14 (fun u2 H locs hu2 hI hS _ _ => ?_)
    refine ly_ifne (tgt := 23) S bI_e2 bI_e1 dX8_bestOf_17 (by decide) (fun h3 => ?_) (fun h3 => ?_)
    · skip
      exact absurd h3 (by decide)
    · skip
      refine lv_bipush (v := (-3)) S.1 S.2.1 dX8_bestOf_20 (by decide) ?_
      exact rw_i S hr hlk u2 rfl hu2 hI hS dX8_bestOf_22
  · skip
    exact absurd h1 (by rw [wiN (by omega) (by omega) (by omega)]; decide)
theorem kX8_bestOf_n {p : Program} {l : Launch} {e : Env} {R : Room} {s : State} {m : MethodId} {args : Array Value} {below : List Frame} {meth : Method} {c : Code} {H H0 : Heap} {locs : List Loc} {cells slots : Nat} {Q : State → Prop} {cc : ByteArray} {nL index pc : Nat} {own : String} {ls : Array Slot} {rest : List Value} {D : va_G} {K : Nat → ClassId} {a : Nat → Nat} {w n lap : Nat} {op mu ba la en : Nat → Nat} {pr : Nat → Option Nat} {sc : MSc} {L : Nat} (S : CallFix p m c cc nL s args lw_tb own) (hI : PI D K (mW K a w n lap op mu ba la en pr sc) s H) (hS : va_S (adA a 13) H0 H locs) (hDis : Dis a 13) (hG : GOK w n lap op mu ba la en pr) (h1L : 1 ≤ L) (h2L : L ≤ 6) (hb : bsS w op mu ba en pr n lap = 1000000000) (hsc : SOK sc) (hlink : Cond.methodLink own index yX8_bestOf ∈ lw_tb) (hR : RO 9 R cells slots) (hsz : ls.size = nL) (hW : (rest.map fun v => v.category).sum ≤ 8) (hdg : decode cc pc = .ok (.invokevirtual index, 3)) (kk : ∀ (u : MSc) (H1 : Heap) (locs1 : List Loc), (SOK u) → PI D K (mW K a w n lap op mu ba la en pr u) s H1 → va_S (adA a 13) H0 H1 locs1 → H.size ≤ H1.size → (∀ q : Nat, q < H.size → ¬ (adA a 13) q → H1[q]? = H[q]?) → W p l e R s m args below meth c H1 locs1 cells slots Q (F0 m (pc + 3) ls ((.int (-3)) :: rest))) : W p l e R s m args below meth c H locs cells slots Q (F0 m pc ls (.int (nI L) :: .ref (a 0) :: rest)) :=
  kVX (As := [.int (nI L)]) (b := a 0) S (mX8_bestOf_n l hDis hG h1L h2L hb hsc) hlink tw_789 tw_790 tw_50 tw_791 (by show _ ∧ _ ∧ _ = some 1; decide +kernel) (by decide) hR blP (piU hI) (va_recv hI.2 hI.1 (ci := 8) (q0 := 0) rfl rfl) hS (fun _ h => h) hsz rfl hW hdg kk

set_option maxHeartbeats 4000000 in
set_option maxRecDepth 100000 in
theorem mX8_bestOf_y (l : Launch) {D : va_G} {K : Nat → ClassId} {a : Nat → Nat} {w n lap : Nat} {op mu ba la en : Nat → Nat} {pr : Nat → Option Nat} {sc : MSc} {L : Nat} (hDis : Dis a 13) (hG : GOK w n lap op mu ba la en pr) (h1L : 1 ≤ L) (h2L : L ≤ 6) (hb : bsS w op mu ba en pr n lap ≠ 1000000000) (hsc : SOK sc) : Met l yX8_bestOf (TWd yX8_bestOf cX8_bestOf 4 (some .int)) (rmk 9) (va_Pc [.ref (a 0), .int (nI L)] (fun U => PI D K (mW K a w n lap op mu ba la en pr sc) U U.heap)) (QX D K (fun u : MSc => some (.int (nI (sumN (fun q => pcF w (op q) (2 * bsR w op mu ba en pr n lap q) L) n)))) (fun u => (mW K a w n lap op mu ba la en pr u)) (fun u => SOK u) (adA a 13)) 0 0 (adA a 13) := by
  refine mt_of (by decide +kernel) (Nat.le_of_ble_eq_true rfl) ?_
  intro p e s m below meth c S hr hlk hI ls hl
  have S : CallFix p m c cX8_bestOf 4 s ([.ref (a 0), .int (nI L)] : List Value).toArray lw_tb RX8 := S
  have hl : lv_has ls 4 [(0, .ref (a 0)), (1, .int (nI L))] := hl
  have hS : va_S (adA a 13) s.heap s.heap [] := va_S.rf
  obtain ⟨gw1, gw2, gn, gl1, gl2, gop, gmu, gba, gla, gen, gpr, gop2, gmu2, gba2, gla2, gme, gbe, gle, gee⟩ := id hG
  refine lv_iload_n S.1 S.2.1 dX8_bestOf_0 rfl (lv_at hl 1 rfl) ?_
  refine lv_iconst (v := nI 1) S.1 S.2.1 dX8_bestOf_1 (by decide) ?_
  refine lv_bipush (v := nI 6) S.1 S.2.1 dX8_bestOf_2 (by decide) ?_
  refine kX8_within S  tw_658 (rok (by decide)) hl.1 (Nat.le_of_ble_eq_true rfl) dX8_bestOf_4 ?_
  refine ly_ifne (tgt := 13) S bI_e2 bI_e1 dX8_bestOf_7 (by decide) (fun h1 => ?_) (fun h1 => ?_)
  · skip
    refine lv_aload_n S.1 S.2.1 dX8_bestOf_13 rfl (lv_at hl 0 rfl) ?_
    refine kX8_hasBest_y S hI hS hDis hG hb hsc tw_784 (rok (by decide)) hl.1 (Nat.le_of_ble_eq_true rfl) dX8_bestOf_14 (fun u2 H locs hu2 hI hS _ _ => ?_)
    refine ly_ifne (tgt := 23) S bI_e2 bI_e1 dX8_bestOf_17 (by decide) (fun h3 => ?_) (fun h3 => ?_)
    · skip
      obtain ⟨v, ev⟩ : ∃ v, v = u2 := ⟨_, rfl⟩
      rw [← ev] at hI hu2
      obtain ⟨a2, a3⟩ := hu2
      refine lv_iconst (v := nI 0) S.1 S.2.1 dX8_bestOf_23 (by decide) ?_
      refine ly_top (z := (nI (sumN (fun q => pcF w (op q) (2 * bsR w op mu ba en pr n lap q) L) 0))) rfl ?_
      refine lv_istore_n (lv' := [(2, .int (nI (sumN (fun q => pcF w (op q) (2 * bsR w op mu ba en pr n lap q) L) 0))), (0, .ref (a 0)), (1, .int (nI L))]) S.1 S.2.1 dX8_bestOf_24 rfl hl (by decide) rfl (fun ls hl => ?_)
      refine lv_iconst (v := nI 0) S.1 S.2.1 dX8_bestOf_25 (by decide) ?_
      refine lv_istore_n (lv' := [(3, .int (nI 0)), (2, .int (nI (sumN (fun q => pcF w (op q) (2 * bsR w op mu ba en pr n lap q) L) 0))), (0, .ref (a 0)), (1, .int (nI L))]) S.1 S.2.1 dX8_bestOf_26 rfl hl (by decide) rfl (fun ls hl => ?_)
      have L27 : ∀ (f27 : Nat) (k : Nat), (k ≤ n) → n - k < f27 → ∀ (ls : Array Slot), lv_has ls 4 [(0, .ref (a 0)), (1, .int (nI L)), (2, .int (nI (sumN (fun q => pcF w (op q) (2 * bsR w op mu ba en pr n lap q) L) k))), (3, .int (nI k))] → W p l e (rmk 9) s m ([.ref (a 0), .int (nI L)] : List Value).toArray below meth c H locs 0 0 (MQ below (QX D K (fun u : MSc => some (.int (nI (sumN (fun q => pcF w (op q) (2 * bsR w op mu ba en pr n lap q) L) n)))) (fun u => (mW K a w n lap op mu ba la en pr u)) (fun u => SOK u) (adA a 13)) ([.ref (a 0), .int (nI L)] : List Value).toArray s 0 0 (adA a 13)) (F0 m 27 ls []) := by
        intro f27
        induction f27 with
        | zero =>
          intro k i2 hm
          exact absurd hm (Nat.not_lt_zero _)
        | succ f27 ih27 =>
          intro k i2 hm27 ls hl
          have rl := bsP_lt (op := op) (mu := mu) (ba := ba) (en := en) (pr := pr) (n := n) (z := lap) (c := k) gw2 (bsT w op mu ba en pr n lap k)
          have rl2 : bsR w op mu ba en pr n lap k < 512 := rl
          refine lv_iload_n S.1 S.2.1 dX8_bestOf_27 rfl (lv_at hl 3 rfl) ?_
          refine lv_aload_n S.1 S.2.1 dX8_bestOf_28 rfl (lv_at hl 0 rfl) ?_
          refine g8 S hI 0 rfl 1 (by decide) tw_608 rfl dX8_bestOf_29 ?_
          refine ly_cmge (tgt := 56) S (nI_le1 (by omega) (by omega)) (nI_le2 (by omega) (by omega)) dX8_bestOf_32 (by decide) (fun h4 => ?_) (fun h4 => ?_)
          · skip
            refine lv_iload_n S.1 S.2.1 dX8_bestOf_56 rfl (lv_at hl 2 rfl) ?_
            exact rw_i S hr hlk v (by rw [show k = n by omega]) a2 hI hS dX8_bestOf_57
          · skip
            refine lv_iload_n S.1 S.2.1 dX8_bestOf_35 rfl (lv_at hl 2 rfl) ?_
            refine lv_aload_n S.1 S.2.1 dX8_bestOf_36 rfl (lv_at hl 0 rfl) ?_
            refine lv_iload_n S.1 S.2.1 dX8_bestOf_37 rfl (lv_at hl 3 rfl) ?_
            refine lv_aload_n S.1 S.2.1 dX8_bestOf_38 rfl (lv_at hl 0 rfl) ?_
            refine g8 S hI 0 rfl 13 (by decide) tw_620 rfl dX8_bestOf_39 ?_
            refine lv_iload_n S.1 S.2.1 dX8_bestOf_42 rfl (lv_at hl 3 rfl) ?_
            refine ly_iald (v := (nI (v.2.2.2.2.1 k))) S hI 11 rfl (by omega) (by decide) rfl dX8_bestOf_43 ?_
            refine ly_top (z := (nI (2 * bsR w op mu ba en pr n lap k))) (by rw [a3 k (by omega)]) ?_
            refine lv_iload_n S.1 S.2.1 dX8_bestOf_44 rfl (lv_at hl 1 rfl) ?_
            refine kX8_piecesIn S hI hG (by omega) (by omega) (by omega) tw_792 (rok (by decide)) hl.1 (Nat.le_of_ble_eq_true rfl) dX8_bestOf_45 ?_
            have b5 : pcF w (op k) (2 * bsR w op mu ba en pr n lap k) L ≤ 10 := pcF_le gw2 _ _ _
            refine lv_iadd S.1 S.2.1 dX8_bestOf_48 ?_
            refine ly_top (z := nI ((sumN (fun q => pcF w (op q) (2 * bsR w op mu ba en pr n lap q) L) k) + (pcF w (op k) (2 * bsR w op mu ba en pr n lap k) L))) (nI_add _ _) ?_
            refine ly_top (z := (nI (sumN (fun q => pcF w (op q) (2 * bsR w op mu ba en pr n lap q) L) (k + 1)))) rfl ?_
            refine lv_istore_n (lv' := [(2, .int (nI (sumN (fun q => pcF w (op q) (2 * bsR w op mu ba en pr n lap q) L) (k + 1)))), (0, .ref (a 0)), (1, .int (nI L)), (3, .int (nI k))]) S.1 S.2.1 dX8_bestOf_49 rfl hl (by decide) rfl (fun ls hl => ?_)
            refine lv_iinc (v := nI (k + 1)) (lv' := [(3, .int (nI (k + 1))), (2, .int (nI (sumN (fun q => pcF w (op q) (2 * bsR w op mu ba en pr n lap q) L) (k + 1)))), (0, .ref (a 0)), (1, .int (nI L))]) S.1 S.2.1 dX8_bestOf_50 hl (k := 3) rfl (nJ_in _ _) (by decide) rfl (fun ls hl => ?_)
            refine lv_goto (tgt := 27) S.1 S.2.1 dX8_bestOf_53 (by decide) ?_
            exact ih27 (k + 1) (by omega) (by omega) _ (lv_sub hl [2, 3, 1, 0] rfl)
      exact L27 _ 0 (by omega) (Nat.lt_succ_self _) _ (lv_sub hl [2, 3, 1, 0] rfl)
    · skip
      exact absurd h3 (by decide)
  · skip
    exact absurd h1 (by rw [wiN (by omega) (by omega) (by omega)]; decide)
theorem kX8_bestOf_y {p : Program} {l : Launch} {e : Env} {R : Room} {s : State} {m : MethodId} {args : Array Value} {below : List Frame} {meth : Method} {c : Code} {H H0 : Heap} {locs : List Loc} {cells slots : Nat} {Q : State → Prop} {cc : ByteArray} {nL index pc : Nat} {own : String} {ls : Array Slot} {rest : List Value} {D : va_G} {K : Nat → ClassId} {a : Nat → Nat} {w n lap : Nat} {op mu ba la en : Nat → Nat} {pr : Nat → Option Nat} {sc : MSc} {L : Nat} (S : CallFix p m c cc nL s args lw_tb own) (hI : PI D K (mW K a w n lap op mu ba la en pr sc) s H) (hS : va_S (adA a 13) H0 H locs) (hDis : Dis a 13) (hG : GOK w n lap op mu ba la en pr) (h1L : 1 ≤ L) (h2L : L ≤ 6) (hb : bsS w op mu ba en pr n lap ≠ 1000000000) (hsc : SOK sc) (hlink : Cond.methodLink own index yX8_bestOf ∈ lw_tb) (hR : RO 9 R cells slots) (hsz : ls.size = nL) (hW : (rest.map fun v => v.category).sum ≤ 8) (hdg : decode cc pc = .ok (.invokevirtual index, 3)) (kk : ∀ (u : MSc) (H1 : Heap) (locs1 : List Loc), (SOK u) → PI D K (mW K a w n lap op mu ba la en pr u) s H1 → va_S (adA a 13) H0 H1 locs1 → H.size ≤ H1.size → (∀ q : Nat, q < H.size → ¬ (adA a 13) q → H1[q]? = H[q]?) → W p l e R s m args below meth c H1 locs1 cells slots Q (F0 m (pc + 3) ls ((.int (nI (sumN (fun q => pcF w (op q) (2 * bsR w op mu ba en pr n lap q) L) n))) :: rest))) : W p l e R s m args below meth c H locs cells slots Q (F0 m pc ls (.int (nI L) :: .ref (a 0) :: rest)) :=
  kVX (As := [.int (nI L)]) (b := a 0) S (mX8_bestOf_y l hDis hG h1L h2L hb hsc) hlink tw_789 tw_790 tw_50 tw_791 (by show _ ∧ _ ∧ _ = some 1; decide +kernel) (by decide) hR blP (piU hI) (va_recv hI.2 hI.1 (ci := 8) (q0 := 0) rfl rfl) hS (fun _ h => h) hsz rfl hW hdg kk

set_option maxHeartbeats 4000000 in
set_option maxRecDepth 100000 in
theorem mX8_layBest_n (l : Launch) {D : va_G} {K : Nat → ClassId} {a : Nat → Nat} {w n lap : Nat} {op mu ba la en : Nat → Nat} {pr : Nat → Option Nat} {sc : MSc} (hDis : Dis a 13) (hG : GOK w n lap op mu ba la en pr) (hb : bsS w op mu ba en pr n lap = 1000000000) (hsc : SOK sc) : Met l yX8_layBest (TWd yX8_layBest cX8_layBest 2 (some .int)) (rmk 9) (va_Pc [.ref (a 0)] (fun U => PI D K (mW K a w n lap op mu ba la en pr sc) U U.heap)) (QX D K (fun u : MSc => some (.int (-3))) (fun u => (mW K a w n lap op mu ba la en pr u)) (fun u => SOK u) (adA a 13)) 0 0 (adA a 13) := by
  refine mt_of (by decide +kernel) (Nat.le_of_ble_eq_true rfl) ?_
  intro p e s m below meth c S hr hlk hI ls hl
  have S : CallFix p m c cX8_layBest 2 s ([.ref (a 0)] : List Value).toArray lw_tb RX8 := S
  have hl : lv_has ls 2 [(0, .ref (a 0))] := hl
  have hS : va_S (adA a 13) s.heap s.heap [] := va_S.rf
  obtain ⟨gw1, gw2, gn, gl1, gl2, gop, gmu, gba, gla, gen, gpr, gop2, gmu2, gba2, gla2, gme, gbe, gle, gee⟩ := id hG
  refine lv_aload_n S.1 S.2.1 dX8_layBest_0 rfl (lv_at hl 0 rfl) ?_
  refine kX8_hasBest_n S hI hS hDis hG hb hsc tw_784 (rok (by decide)) hl.1 (Nat.le_of_ble_eq_true rfl) dX8_layBest_1 (fun u1 H locs hu1 hI hS _ _ => ?_)
  refine ly_ifne (tgt := 10) S bI_e2 bI_e1 dX8_layBest_4 (by decide) (fun h2 => ?_) (fun h2 => ?_)
  · skip
    exact absurd h2 (by decide)
  · skip
    refine lv_bipush (v := (-3)) S.1 S.2.1 dX8_layBest_7 (by decide) ?_
    exact rw_i S hr hlk u1 rfl hu1 hI hS dX8_layBest_9
theorem kX8_layBest_n {p : Program} {l : Launch} {e : Env} {R : Room} {s : State} {m : MethodId} {args : Array Value} {below : List Frame} {meth : Method} {c : Code} {H H0 : Heap} {locs : List Loc} {cells slots : Nat} {Q : State → Prop} {cc : ByteArray} {nL index pc : Nat} {own : String} {ls : Array Slot} {rest : List Value} {D : va_G} {K : Nat → ClassId} {a : Nat → Nat} {w n lap : Nat} {op mu ba la en : Nat → Nat} {pr : Nat → Option Nat} {sc : MSc} (S : CallFix p m c cc nL s args lw_tb own) (hI : PI D K (mW K a w n lap op mu ba la en pr sc) s H) (hS : va_S (adA a 13) H0 H locs) (hDis : Dis a 13) (hG : GOK w n lap op mu ba la en pr) (hb : bsS w op mu ba en pr n lap = 1000000000) (hsc : SOK sc) (hlink : Cond.methodLink own index yX8_layBest ∈ lw_tb) (hR : RO 9 R cells slots) (hsz : ls.size = nL) (hW : (rest.map fun v => v.category).sum ≤ 8) (hdg : decode cc pc = .ok (.invokevirtual index, 3)) (kk : ∀ (u : MSc) (H1 : Heap) (locs1 : List Loc), (SOK u) → PI D K (mW K a w n lap op mu ba la en pr u) s H1 → va_S (adA a 13) H0 H1 locs1 → H.size ≤ H1.size → (∀ q : Nat, q < H.size → ¬ (adA a 13) q → H1[q]? = H[q]?) → W p l e R s m args below meth c H1 locs1 cells slots Q (F0 m (pc + 3) ls ((.int (-3)) :: rest))) : W p l e R s m args below meth c H locs cells slots Q (F0 m pc ls (.ref (a 0) :: rest)) :=
  kVX (As := []) (b := a 0) S (mX8_layBest_n l hDis hG hb hsc) hlink tw_813 tw_814 tw_50 tw_815 (by show _ ∧ _ ∧ _ = some 0; decide +kernel) (by decide) hR blP (piU hI) (va_recv hI.2 hI.1 (ci := 8) (q0 := 0) rfl rfl) hS (fun _ h => h) hsz rfl hW hdg kk

set_option maxHeartbeats 4000000 in
set_option maxRecDepth 100000 in
theorem mX8_layBest_y (l : Launch) {D : va_G} {K : Nat → ClassId} {a : Nat → Nat} {w n lap : Nat} {op mu ba la en : Nat → Nat} {pr : Nat → Option Nat} {sc : MSc} (hDis : Dis a 13) (hG : GOK w n lap op mu ba la en pr) (hb : bsS w op mu ba en pr n lap ≠ 1000000000) (hsc : SOK sc) : Met l yX8_layBest (TWd yX8_layBest cX8_layBest 2 (some .int)) (rmk 9) (va_Pc [.ref (a 0)] (fun U => PI D K (mW K a w n lap op mu ba la en pr sc) U U.heap)) (QX D K (fun u : MSc => some (.int (nI (bsS w op mu ba en pr n lap)))) (fun u => (mW K a w n lap op mu ba (lyF la (fun q => 2 * bsR w op mu ba en pr n lap q) n) en pr u)) (fun u => SOK u) (adA a 13)) 0 0 (adA a 13) := by
  refine mt_of (by decide +kernel) (Nat.le_of_ble_eq_true rfl) ?_
  intro p e s m below meth c S hr hlk hI ls hl
  have S : CallFix p m c cX8_layBest 2 s ([.ref (a 0)] : List Value).toArray lw_tb RX8 := S
  have hl : lv_has ls 2 [(0, .ref (a 0))] := hl
  have hS : va_S (adA a 13) s.heap s.heap [] := va_S.rf
  obtain ⟨gw1, gw2, gn, gl1, gl2, gop, gmu, gba, gla, gen, gpr, gop2, gmu2, gba2, gla2, gme, gbe, gle, gee⟩ := id hG
  refine lv_aload_n S.1 S.2.1 dX8_layBest_0 rfl (lv_at hl 0 rfl) ?_
  refine kX8_hasBest_y S hI hS hDis hG hb hsc tw_784 (rok (by decide)) hl.1 (Nat.le_of_ble_eq_true rfl) dX8_layBest_1 (fun u1 H locs hu1 hI hS _ _ => ?_)
  refine ly_ifne (tgt := 10) S bI_e2 bI_e1 dX8_layBest_4 (by decide) (fun h2 => ?_) (fun h2 => ?_)
  · skip
    obtain ⟨v, ev⟩ : ∃ v, v = u1 := ⟨_, rfl⟩
    rw [← ev] at hI hu1
    obtain ⟨a2, a3⟩ := hu1
    rw [← lyF_0 (la := la) (f := fun q => 2 * bsR w op mu ba en pr n lap q)] at hI
    refine lv_iconst (v := nI 0) S.1 S.2.1 dX8_layBest_10 (by decide) ?_
    refine lv_istore_n (lv' := [(1, .int (nI 0)), (0, .ref (a 0))]) S.1 S.2.1 dX8_layBest_11 rfl hl (by decide) rfl (fun ls hl => ?_)
    have L12 : ∀ (f12 : Nat) (k : Nat) (H : Heap) (locs : List Loc), (k ≤ n) → (PI D K (mW K a w n lap op mu ba (lyF la (fun q => 2 * bsR w op mu ba en pr n lap q) k) en pr v) s H) → (va_S (adA a 13) s.heap H locs) → n - k < f12 → ∀ (ls : Array Slot), lv_has ls 2 [(0, .ref (a 0)), (1, .int (nI k))] → W p l e (rmk 9) s m ([.ref (a 0)] : List Value).toArray below meth c H locs 0 0 (MQ below (QX D K (fun u : MSc => some (.int (nI (bsS w op mu ba en pr n lap)))) (fun u => (mW K a w n lap op mu ba (lyF la (fun q => 2 * bsR w op mu ba en pr n lap q) n) en pr u)) (fun u => SOK u) (adA a 13)) ([.ref (a 0)] : List Value).toArray s 0 0 (adA a 13)) (F0 m 12 ls []) := by
      intro f12
      induction f12 with
      | zero =>
        intro k H locs i2 hI hS hm
        exact absurd hm (Nat.not_lt_zero _)
      | succ f12 ih12 =>
        intro k H locs i2 hI hS hm12 ls hl
        refine lv_iload_n S.1 S.2.1 dX8_layBest_12 rfl (lv_at hl 1 rfl) ?_
        refine lv_aload_n S.1 S.2.1 dX8_layBest_13 rfl (lv_at hl 0 rfl) ?_
        refine g8 S hI 0 rfl 1 (by decide) tw_608 rfl dX8_layBest_14 ?_
        refine ly_cmge (tgt := 38) S (nI_le1 (by omega) (by omega)) (nI_le2 (by omega) (by omega)) dX8_layBest_17 (by decide) (fun h3 => ?_) (fun h3 => ?_)
        · skip
          have ek : k = n := by omega
          rw [ek] at hI
          have hG2 := GOK_ly hG n (Nat.le_refl _) lap
          refine lv_aload_n S.1 S.2.1 dX8_layBest_38 rfl (lv_at hl 0 rfl) ?_
          refine kX8_laidCost S hI hG2 tw_816 (rok (by decide)) hl.1 (Nat.le_of_ble_eq_true rfl) dX8_layBest_39 ?_
          exact rw_i S hr hlk v (by rw [ly_total hb]) a2 hI hS dX8_layBest_42
        · skip
          refine lv_aload_n S.1 S.2.1 dX8_layBest_20 rfl (lv_at hl 0 rfl) ?_
          refine g8 S hI 0 rfl 5 (by decide) tw_612 rfl dX8_layBest_21 ?_
          refine lv_iload_n S.1 S.2.1 dX8_layBest_24 rfl (lv_at hl 1 rfl) ?_
          refine lv_aload_n S.1 S.2.1 dX8_layBest_25 rfl (lv_at hl 0 rfl) ?_
          refine g8 S hI 0 rfl 13 (by decide) tw_620 rfl dX8_layBest_26 ?_
          refine lv_iload_n S.1 S.2.1 dX8_layBest_29 rfl (lv_at hl 1 rfl) ?_
          refine ly_iald (v := (nI (v.2.2.2.2.1 k))) S hI 11 rfl (by omega) (by decide) rfl dX8_layBest_30 ?_
          refine ly_top (z := (nI (2 * bsR w op mu ba en pr n lap k))) (by rw [a3 k (by omega)]) ?_
          refine ly_iast (ws' := (mW K a w n lap op mu ba (va_up (lyF la (fun q => 2 * bsR w op mu ba en pr n lap q) k) k (2 * bsR w op mu ba en pr n lap k)) en pr v)) S hI (mD hDis) hS 4 rfl (by omega) (by decide) ms_4 dX8_layBest_31 (fun H locs hI hS => ?_)
          rw [lyF_s (f := fun q => 2 * bsR w op mu ba en pr n lap q)] at hI
          refine lv_iinc (v := nI (k + 1)) (lv' := [(1, .int (nI (k + 1))), (0, .ref (a 0))]) S.1 S.2.1 dX8_layBest_32 hl (k := 1) rfl (nJ_in _ _) (by decide) rfl (fun ls hl => ?_)
          refine lv_goto (tgt := 12) S.1 S.2.1 dX8_layBest_35 (by decide) ?_
          exact ih12 (k + 1) _ _ (by omega) hI hS (by omega) _ (lv_sub hl [1, 0] rfl)
    exact L12 _ 0 _ _ (by omega) hI hS (Nat.lt_succ_self _) _ (lv_sub hl [1, 0] rfl)
  · skip
    exact absurd h2 (by decide)
theorem kX8_layBest_y {p : Program} {l : Launch} {e : Env} {R : Room} {s : State} {m : MethodId} {args : Array Value} {below : List Frame} {meth : Method} {c : Code} {H H0 : Heap} {locs : List Loc} {cells slots : Nat} {Q : State → Prop} {cc : ByteArray} {nL index pc : Nat} {own : String} {ls : Array Slot} {rest : List Value} {D : va_G} {K : Nat → ClassId} {a : Nat → Nat} {w n lap : Nat} {op mu ba la en : Nat → Nat} {pr : Nat → Option Nat} {sc : MSc} (S : CallFix p m c cc nL s args lw_tb own) (hI : PI D K (mW K a w n lap op mu ba la en pr sc) s H) (hS : va_S (adA a 13) H0 H locs) (hDis : Dis a 13) (hG : GOK w n lap op mu ba la en pr) (hb : bsS w op mu ba en pr n lap ≠ 1000000000) (hsc : SOK sc) (hlink : Cond.methodLink own index yX8_layBest ∈ lw_tb) (hR : RO 9 R cells slots) (hsz : ls.size = nL) (hW : (rest.map fun v => v.category).sum ≤ 8) (hdg : decode cc pc = .ok (.invokevirtual index, 3)) (kk : ∀ (u : MSc) (H1 : Heap) (locs1 : List Loc), (SOK u) → PI D K (mW K a w n lap op mu ba (lyF la (fun q => 2 * bsR w op mu ba en pr n lap q) n) en pr u) s H1 → va_S (adA a 13) H0 H1 locs1 → H.size ≤ H1.size → (∀ q : Nat, q < H.size → ¬ (adA a 13) q → H1[q]? = H[q]?) → W p l e R s m args below meth c H1 locs1 cells slots Q (F0 m (pc + 3) ls ((.int (nI (bsS w op mu ba en pr n lap))) :: rest))) : W p l e R s m args below meth c H locs cells slots Q (F0 m pc ls (.ref (a 0) :: rest)) :=
  kVX (As := []) (b := a 0) S (mX8_layBest_y l hDis hG hb hsc) hlink tw_813 tw_814 tw_50 tw_815 (by show _ ∧ _ ∧ _ = some 0; decide +kernel) (by decide) hR blP (piU hI) (va_recv hI.2 hI.1 (ci := 8) (q0 := 0) rfl rfl) hS (fun _ h => h) hsz rfl hW hdg kk

set_option maxHeartbeats 4000000 in
set_option maxRecDepth 100000 in
theorem mX8_reaches (l : Launch) {D : va_G} {K : Nat → ClassId} {a : Nat → Nat} {w n lap : Nat} {op mu ba la en : Nat → Nat} {pr : Nat → Option Nat} {sc : MSc} {ci : Nat} (hDis : Dis a 13) (hG : GOK w n lap op mu ba la en pr) (hc : ci < 8) (hr0 : RowsOk w op mu ba en pr ci sc) (hr1 : 0 < ci → RowsOk w op mu ba en pr (ci - 1) sc ∧ ∀ q, q < (rws w op mu ba en pr (ci - 1)).length → sc.2.2.2.2.2 (512 * (ci - 1) + q) = rcS w op mu ba en pr lap (ci - 1) ((rws w op mu ba en pr (ci - 1)).getD q 0)) (hsc : SOK sc) : Met l yX8_reaches (TWd yX8_reaches cX8_reaches 6 (some .boolean)) (rmk 1) (va_Pc [.ref (a 0), .int (nI ci)] (fun U => PI D K (mW K a w n lap op mu ba la en pr sc) U U.heap)) (QX D K (fun u : MSc => some (.int (bI ((rws w op mu ba en pr ci).any (rcS w op mu ba en pr lap ci))))) (fun u => (mW K a w n lap op mu ba la en pr u)) (fun u => u.1 = sc.1 ∧ u.2.1 = sc.2.1 ∧ SOK u ∧ (∀ i, i < 512 * ci → u.2.2.2.2.2 i = sc.2.2.2.2.2 i) ∧ ∀ q, q < (rws w op mu ba en pr ci).length → u.2.2.2.2.2 (512 * ci + q) = rcS w op mu ba en pr lap ci ((rws w op mu ba en pr ci).getD q 0)) (adA a 13)) 0 0 (adA a 13) := by
  refine mt_of (by decide +kernel) (Nat.le_of_ble_eq_true rfl) ?_
  intro p e s m below meth c S hr hlk hI ls hl
  have S : CallFix p m c cX8_reaches 6 s ([.ref (a 0), .int (nI ci)] : List Value).toArray lw_tb RX8 := S
  have hl : lv_has ls 6 [(0, .ref (a 0)), (1, .int (nI ci))] := hl
  have hS : va_S (adA a 13) s.heap s.heap [] := va_S.rf
  obtain ⟨gw1, gw2, gn, gl1, gl2, gop, gmu, gba, gla, gen, gpr, gop2, gmu2, gba2, gla2, gme, gbe, gle, gee⟩ := id hG
  have rle := rws_len (op := op) (mu := mu) (ba := ba) (en := en) (pr := pr) gw2 ci
  have rle1 := rws_len (op := op) (mu := mu) (ba := ba) (en := en) (pr := pr) gw2 (ci - 1)
  refine lv_iconst (v := nI 0) S.1 S.2.1 dX8_reaches_0 (by decide) ?_
  refine ly_top (z := bI (anyG (rws w op mu ba en pr ci) (rcS w op mu ba en pr lap ci) 0)) (by rw [show (anyG (rws w op mu ba en pr ci) (rcS w op mu ba en pr lap ci) 0) = false by simp [anyG]]; rfl) ?_
  refine lv_istore_n (lv' := [(2, .int (bI (anyG (rws w op mu ba en pr ci) (rcS w op mu ba en pr lap ci) 0))), (0, .ref (a 0)), (1, .int (nI ci))]) S.1 S.2.1 dX8_reaches_1 rfl hl (by decide) rfl (fun ls hl => ?_)
  refine lv_iconst (v := nI 0) S.1 S.2.1 dX8_reaches_2 (by decide) ?_
  refine lv_istore_n (lv' := [(3, .int (nI 0)), (2, .int (bI (anyG (rws w op mu ba en pr ci) (rcS w op mu ba en pr lap ci) 0))), (0, .ref (a 0)), (1, .int (nI ci))]) S.1 S.2.1 dX8_reaches_3 rfl hl (by decide) rfl (fun ls hl => ?_)
  have L4 : ∀ (f4 : Nat) (k : Nat) (t : MSc) (H : Heap) (locs : List Loc), (k ≤ (rws w op mu ba en pr ci).length) → (t.1 = sc.1) → (t.2.1 = sc.2.1) → (SOK t) → (∀ q, q < k → t.2.2.2.2.2 (512 * ci + q) = rcS w op mu ba en pr lap ci ((rws w op mu ba en pr ci).getD q 0)) → (∀ i, i < 512 * ci → t.2.2.2.2.2 i = sc.2.2.2.2.2 i) → (PI D K (mW K a w n lap op mu ba la en pr t) s H) → (va_S (adA a 13) s.heap H locs) → (rws w op mu ba en pr ci).length - k < f4 → ∀ (ls : Array Slot), lv_has ls 6 [(0, .ref (a 0)), (1, .int (nI ci)), (2, .int (bI (anyG (rws w op mu ba en pr ci) (rcS w op mu ba en pr lap ci) k))), (3, .int (nI k))] → W p l e (rmk 1) s m ([.ref (a 0), .int (nI ci)] : List Value).toArray below meth c H locs 0 0 (MQ below (QX D K (fun u : MSc => some (.int (bI ((rws w op mu ba en pr ci).any (rcS w op mu ba en pr lap ci))))) (fun u => (mW K a w n lap op mu ba la en pr u)) (fun u => u.1 = sc.1 ∧ u.2.1 = sc.2.1 ∧ SOK u ∧ (∀ i, i < 512 * ci → u.2.2.2.2.2 i = sc.2.2.2.2.2 i) ∧ ∀ q, q < (rws w op mu ba en pr ci).length → u.2.2.2.2.2 (512 * ci + q) = rcS w op mu ba en pr lap ci ((rws w op mu ba en pr ci).getD q 0)) (adA a 13)) ([.ref (a 0), .int (nI ci)] : List Value).toArray s 0 0 (adA a 13)) (F0 m 4 ls []) := by
    intro f4
    induction f4 with
    | zero =>
      intro k t H locs i1 i2 i3 i4 i5 i6 hI hS hm
      exact absurd hm (Nat.not_lt_zero _)
    | succ f4 ih4 =>
      intro k t H locs i1 i2 i3 i4 i5 i6 hI hS hm4 ls hl
      have e0 : t.1 ci = (rws w op mu ba en pr ci).length := by rw [i2]; exact hr0.1
      refine lv_iload_n S.1 S.2.1 dX8_reaches_4 rfl (lv_at hl 3 rfl) ?_
      refine lv_aload_n S.1 S.2.1 dX8_reaches_5 rfl (lv_at hl 0 rfl) ?_
      refine g8 S hI 0 rfl 9 (by decide) tw_616 rfl dX8_reaches_6 ?_
      refine lv_iload_n S.1 S.2.1 dX8_reaches_9 rfl (lv_at hl 1 rfl) ?_
      refine ly_iald (v := (nI (t.1 ci))) S hI 7 rfl (by omega) (by decide) rfl dX8_reaches_10 ?_
      refine ly_cmge (tgt := 154) S (nI_le1 (by omega) (by omega)) (nI_le2 (by omega) (by omega)) dX8_reaches_11 (by decide) (fun h1 => ?_) (fun h1 => ?_)
      · skip
        have ek : k = (rws w op mu ba en pr ci).length := by omega
        refine lv_iload_n S.1 S.2.1 dX8_reaches_154 rfl (lv_at hl 2 rfl) ?_
        exact rw_z (z := (anyG (rws w op mu ba en pr ci) (rcS w op mu ba en pr lap ci) k)) S hr hlk t rfl (by rw [ek, anyG_all]) ⟨i2, i3, i4, i6, by rw [ek] at i5; exact i5⟩ hI hS dX8_reaches_155
      · skip
        have J25 : ∀ (ls : Array Slot), lv_has ls 6 [(0, .ref (a 0)), (1, .int (nI ci)), (2, .int (bI (anyG (rws w op mu ba en pr ci) (rcS w op mu ba en pr lap ci) k))), (3, .int (nI k)), (4, .int (bI (decide (ci = 0) || anyG (rws w op mu ba en pr (ci - 1)) (fun i9 => rcS w op mu ba en pr lap (ci - 1) i9 && cmpt lap i9 ((rws w op mu ba en pr ci).getD k 0)) 0)))] → W p l e (rmk 1) s m ([.ref (a 0), .int (nI ci)] : List Value).toArray below meth c H locs 0 0 (MQ below (QX D K (fun u : MSc => some (.int (bI ((rws w op mu ba en pr ci).any (rcS w op mu ba en pr lap ci))))) (fun u => (mW K a w n lap op mu ba la en pr u)) (fun u => u.1 = sc.1 ∧ u.2.1 = sc.2.1 ∧ SOK u ∧ (∀ i, i < 512 * ci → u.2.2.2.2.2 i = sc.2.2.2.2.2 i) ∧ ∀ q, q < (rws w op mu ba en pr ci).length → u.2.2.2.2.2 (512 * ci + q) = rcS w op mu ba en pr lap ci ((rws w op mu ba en pr ci).getD q 0)) (adA a 13)) ([.ref (a 0), .int (nI ci)] : List Value).toArray s 0 0 (adA a 13)) (F0 m 25 ls []) := by
          intro  ls hl
          refine lv_iconst (v := nI 0) S.1 S.2.1 dX8_reaches_25 (by decide) ?_
          refine lv_istore (lv' := [(5, .int (nI 0)), (0, .ref (a 0)), (1, .int (nI ci)), (2, .int (bI (anyG (rws w op mu ba en pr ci) (rcS w op mu ba en pr lap ci) k))), (3, .int (nI k)), (4, .int (bI (decide (ci = 0) || anyG (rws w op mu ba en pr (ci - 1)) (fun i9 => rcS w op mu ba en pr lap (ci - 1) i9 && cmpt lap i9 ((rws w op mu ba en pr ci).getD k 0)) 0)))]) S.1 S.2.1 dX8_reaches_26 hl (by decide) rfl (fun ls hl => ?_)
          have L28 : ∀ (f28 : Nat) (j : Nat), (0 < ci → j ≤ (rws w op mu ba en pr (ci - 1)).length) → (rws w op mu ba en pr (ci - 1)).length - j < f28 → ∀ (ls : Array Slot), lv_has ls 6 [(0, .ref (a 0)), (1, .int (nI ci)), (2, .int (bI (anyG (rws w op mu ba en pr ci) (rcS w op mu ba en pr lap ci) k))), (3, .int (nI k)), (4, .int (bI (decide (ci = 0) || anyG (rws w op mu ba en pr (ci - 1)) (fun i9 => rcS w op mu ba en pr lap (ci - 1) i9 && cmpt lap i9 ((rws w op mu ba en pr ci).getD k 0)) j))), (5, .int (nI j))] → W p l e (rmk 1) s m ([.ref (a 0), .int (nI ci)] : List Value).toArray below meth c H locs 0 0 (MQ below (QX D K (fun u : MSc => some (.int (bI ((rws w op mu ba en pr ci).any (rcS w op mu ba en pr lap ci))))) (fun u => (mW K a w n lap op mu ba la en pr u)) (fun u => u.1 = sc.1 ∧ u.2.1 = sc.2.1 ∧ SOK u ∧ (∀ i, i < 512 * ci → u.2.2.2.2.2 i = sc.2.2.2.2.2 i) ∧ ∀ q, q < (rws w op mu ba en pr ci).length → u.2.2.2.2.2 (512 * ci + q) = rcS w op mu ba en pr lap ci ((rws w op mu ba en pr ci).getD q 0)) (adA a 13)) ([.ref (a 0), .int (nI ci)] : List Value).toArray s 0 0 (adA a 13)) (F0 m 28 ls []) := by
            intro f28
            induction f28 with
            | zero =>
              intro j j1 hm
              exact absurd hm (Nat.not_lt_zero _)
            | succ f28 ih28 =>
              intro j j1 hm28 ls hl
              refine lv_iload_n S.1 S.2.1 dX8_reaches_28 rfl (lv_at hl 1 rfl) ?_
              refine ly_ifle (tgt := 119) S (fun q => nI_p2 (by omega) (Int32.not_lt.mpr q)) (fun q => nI_p1 (by omega) (Int32.not_le.mp q)) dX8_reaches_29 (by decide) (fun h2 => ?_) (fun h2 => ?_)
              · skip
                have ef : (decide (ci = 0) || anyG (rws w op mu ba en pr (ci - 1)) (fun i9 => rcS w op mu ba en pr lap (ci - 1) i9 && cmpt lap i9 ((rws w op mu ba en pr ci).getD k 0)) j) = rcS w op mu ba en pr lap ci ((rws w op mu ba en pr ci).getD k 0) := rc_0 h2
                rw [ef] at hl
                refine lv_aload_n S.1 S.2.1 dX8_reaches_119 rfl (lv_at hl 0 rfl) ?_
                refine g8 S hI 0 rfl 14 (by decide) tw_621 rfl dX8_reaches_120 ?_
                refine lv_sipush (v := nI 512) S.1 S.2.1 dX8_reaches_123 (by decide) ?_
                refine lv_iload_n S.1 S.2.1 dX8_reaches_126 rfl (lv_at hl 1 rfl) ?_
                refine lv_imul S.1 S.2.1 dX8_reaches_127 ?_
                refine ly_top (z := nI (512 * ci)) (pk_mul _ _) ?_
                refine lv_iload_n S.1 S.2.1 dX8_reaches_128 rfl (lv_at hl 3 rfl) ?_
                refine lv_iadd S.1 S.2.1 dX8_reaches_129 ?_
                refine ly_top (z := nI ((512 * ci) + k)) (nI_add _ _) ?_
                refine lv_iload S.1 S.2.1 dX8_reaches_130 (lv_at hl 4 rfl) ?_
                refine ly_zast (ws' := (mW K a w n lap op mu ba la en pr (t.1, t.2.1, t.2.2.1, t.2.2.2.1, t.2.2.2.2.1, va_up t.2.2.2.2.2 ((512 * ci) + k) (rcS w op mu ba en pr lap ci ((rws w op mu ba en pr ci).getD k 0))))) S hI (mD hDis) hS 12 rfl (by omega) (by decide) (ms_12 (sc := t)) dX8_reaches_132 (fun H locs hI hS => ?_)
                refine lv_iload_n S.1 S.2.1 dX8_reaches_133 rfl (lv_at hl 2 rfl) ?_
                refine ly_ifne (tgt := 142) S bI_e2 bI_e1 dX8_reaches_134 (by decide) (fun h3 => ?_) (fun h3 => ?_)
                · skip
                  refine lv_iconst (v := nI 1) S.1 S.2.1 dX8_reaches_142 (by decide) ?_
                  refine lv_goto (tgt := 147) S.1 S.2.1 dX8_reaches_143 (by decide) ?_
                  refine ly_top (z := bI (anyG (rws w op mu ba en pr ci) (rcS w op mu ba en pr lap ci) (k + 1))) (by rw [anyG_s (by omega), h3]; rfl) ?_
                  refine lv_istore_n (lv' := [(2, .int (bI (anyG (rws w op mu ba en pr ci) (rcS w op mu ba en pr lap ci) (k + 1)))), (0, .ref (a 0)), (1, .int (nI ci)), (3, .int (nI k)), (4, .int (bI (rcS w op mu ba en pr lap ci ((rws w op mu ba en pr ci).getD k 0)))), (5, .int (nI j))]) S.1 S.2.1 dX8_reaches_147 rfl hl (by decide) rfl (fun ls hl => ?_)
                  refine lv_iinc (v := nI (k + 1)) (lv' := [(3, .int (nI (k + 1))), (2, .int (bI (anyG (rws w op mu ba en pr ci) (rcS w op mu ba en pr lap ci) (k + 1)))), (0, .ref (a 0)), (1, .int (nI ci)), (4, .int (bI (rcS w op mu ba en pr lap ci ((rws w op mu ba en pr ci).getD k 0)))), (5, .int (nI j))]) S.1 S.2.1 dX8_reaches_148 hl (k := 3) rfl (nJ_in _ _) (by decide) rfl (fun ls hl => ?_)
                  refine lv_goto (tgt := 4) S.1 S.2.1 dX8_reaches_151 (by decide) ?_
                  exact ih4 (k + 1) (t.1, t.2.1, t.2.2.1, t.2.2.2.1, t.2.2.2.2.1, va_up t.2.2.2.2.2 ((512 * ci) + k) (rcS w op mu ba en pr lap ci ((rws w op mu ba en pr ci).getD k 0))) _ _ (by omega) i2 i3 i4 (re_s i5) (re_o i6) hI hS (by omega) _ (lv_sub hl [2, 3, 1, 0] rfl)
                · skip
                  refine lv_iload S.1 S.2.1 dX8_reaches_137 (lv_at hl 4 rfl) ?_
                  refine ly_ifeq (tgt := 146) S bI_e1 bI_e2 dX8_reaches_139 (by decide) (fun h4 => ?_) (fun h4 => ?_)
                  · skip
                    refine lv_iconst (v := nI 0) S.1 S.2.1 dX8_reaches_146 (by decide) ?_
                    refine ly_top (z := bI (anyG (rws w op mu ba en pr ci) (rcS w op mu ba en pr lap ci) (k + 1))) (by rw [anyG_s (by omega), h3, h4]; rfl) ?_
                    refine lv_istore_n (lv' := [(2, .int (bI (anyG (rws w op mu ba en pr ci) (rcS w op mu ba en pr lap ci) (k + 1)))), (0, .ref (a 0)), (1, .int (nI ci)), (3, .int (nI k)), (4, .int (bI (rcS w op mu ba en pr lap ci ((rws w op mu ba en pr ci).getD k 0)))), (5, .int (nI j))]) S.1 S.2.1 dX8_reaches_147 rfl hl (by decide) rfl (fun ls hl => ?_)
                    refine lv_iinc (v := nI (k + 1)) (lv' := [(3, .int (nI (k + 1))), (2, .int (bI (anyG (rws w op mu ba en pr ci) (rcS w op mu ba en pr lap ci) (k + 1)))), (0, .ref (a 0)), (1, .int (nI ci)), (4, .int (bI (rcS w op mu ba en pr lap ci ((rws w op mu ba en pr ci).getD k 0)))), (5, .int (nI j))]) S.1 S.2.1 dX8_reaches_148 hl (k := 3) rfl (nJ_in _ _) (by decide) rfl (fun ls hl => ?_)
                    refine lv_goto (tgt := 4) S.1 S.2.1 dX8_reaches_151 (by decide) ?_
                    exact ih4 (k + 1) (t.1, t.2.1, t.2.2.1, t.2.2.2.1, t.2.2.2.2.1, va_up t.2.2.2.2.2 ((512 * ci) + k) (rcS w op mu ba en pr lap ci ((rws w op mu ba en pr ci).getD k 0))) _ _ (by omega) i2 i3 i4 (re_s i5) (re_o i6) hI hS (by omega) _ (lv_sub hl [2, 3, 1, 0] rfl)
                  · skip
                    refine lv_iconst (v := nI 1) S.1 S.2.1 dX8_reaches_142 (by decide) ?_
                    refine lv_goto (tgt := 147) S.1 S.2.1 dX8_reaches_143 (by decide) ?_
                    refine ly_top (z := bI (anyG (rws w op mu ba en pr ci) (rcS w op mu ba en pr lap ci) (k + 1))) (by rw [anyG_s (by omega), h3, h4]; rfl) ?_
                    refine lv_istore_n (lv' := [(2, .int (bI (anyG (rws w op mu ba en pr ci) (rcS w op mu ba en pr lap ci) (k + 1)))), (0, .ref (a 0)), (1, .int (nI ci)), (3, .int (nI k)), (4, .int (bI (rcS w op mu ba en pr lap ci ((rws w op mu ba en pr ci).getD k 0)))), (5, .int (nI j))]) S.1 S.2.1 dX8_reaches_147 rfl hl (by decide) rfl (fun ls hl => ?_)
                    refine lv_iinc (v := nI (k + 1)) (lv' := [(3, .int (nI (k + 1))), (2, .int (bI (anyG (rws w op mu ba en pr ci) (rcS w op mu ba en pr lap ci) (k + 1)))), (0, .ref (a 0)), (1, .int (nI ci)), (4, .int (bI (rcS w op mu ba en pr lap ci ((rws w op mu ba en pr ci).getD k 0)))), (5, .int (nI j))]) S.1 S.2.1 dX8_reaches_148 hl (k := 3) rfl (nJ_in _ _) (by decide) rfl (fun ls hl => ?_)
                    refine lv_goto (tgt := 4) S.1 S.2.1 dX8_reaches_151 (by decide) ?_
                    exact ih4 (k + 1) (t.1, t.2.1, t.2.2.1, t.2.2.2.1, t.2.2.2.2.1, va_up t.2.2.2.2.2 ((512 * ci) + k) (rcS w op mu ba en pr lap ci ((rws w op mu ba en pr ci).getD k 0))) _ _ (by omega) i2 i3 i4 (re_s i5) (re_o i6) hI hS (by omega) _ (lv_sub hl [2, 3, 1, 0] rfl)
              · skip
                obtain ⟨⟨p1, p2⟩, p3⟩ := hr1 h2
                have e1 : t.1 (ci - 1) = (rws w op mu ba en pr (ci - 1)).length := by rw [i2]; exact p1
                have j2 := j1 h2
                refine lv_iload S.1 S.2.1 dX8_reaches_32 (lv_at hl 5 rfl) ?_
                refine lv_aload_n S.1 S.2.1 dX8_reaches_34 rfl (lv_at hl 0 rfl) ?_
                refine g8 S hI 0 rfl 9 (by decide) tw_616 rfl dX8_reaches_35 ?_
                refine lv_iload_n S.1 S.2.1 dX8_reaches_38 rfl (lv_at hl 1 rfl) ?_
                refine lv_iconst (v := nI 1) S.1 S.2.1 dX8_reaches_39 (by decide) ?_
                refine lv_isub S.1 S.2.1 dX8_reaches_40 ?_
                refine ly_top (z := nI (ci - 1)) (pk_sub (by omega)) ?_
                refine ly_iald (v := (nI (t.1 (ci - 1)))) S hI 7 rfl (by omega) (by decide) rfl dX8_reaches_41 ?_
                refine ly_cmge (tgt := 119) S (nI_le1 (by omega) (by omega)) (nI_le2 (by omega) (by omega)) dX8_reaches_42 (by decide) (fun h5 => ?_) (fun h5 => ?_)
                · skip
                  have ef : (decide (ci = 0) || anyG (rws w op mu ba en pr (ci - 1)) (fun i9 => rcS w op mu ba en pr lap (ci - 1) i9 && cmpt lap i9 ((rws w op mu ba en pr ci).getD k 0)) j) = rcS w op mu ba en pr lap ci ((rws w op mu ba en pr ci).getD k 0) := rc_e h2 (by omega)
                  rw [ef] at hl
                  refine lv_aload_n S.1 S.2.1 dX8_reaches_119 rfl (lv_at hl 0 rfl) ?_
                  refine g8 S hI 0 rfl 14 (by decide) tw_621 rfl dX8_reaches_120 ?_
                  refine lv_sipush (v := nI 512) S.1 S.2.1 dX8_reaches_123 (by decide) ?_
                  refine lv_iload_n S.1 S.2.1 dX8_reaches_126 rfl (lv_at hl 1 rfl) ?_
                  refine lv_imul S.1 S.2.1 dX8_reaches_127 ?_
                  refine ly_top (z := nI (512 * ci)) (pk_mul _ _) ?_
                  refine lv_iload_n S.1 S.2.1 dX8_reaches_128 rfl (lv_at hl 3 rfl) ?_
                  refine lv_iadd S.1 S.2.1 dX8_reaches_129 ?_
                  refine ly_top (z := nI ((512 * ci) + k)) (nI_add _ _) ?_
                  refine lv_iload S.1 S.2.1 dX8_reaches_130 (lv_at hl 4 rfl) ?_
                  refine ly_zast (ws' := (mW K a w n lap op mu ba la en pr (t.1, t.2.1, t.2.2.1, t.2.2.2.1, t.2.2.2.2.1, va_up t.2.2.2.2.2 ((512 * ci) + k) (rcS w op mu ba en pr lap ci ((rws w op mu ba en pr ci).getD k 0))))) S hI (mD hDis) hS 12 rfl (by omega) (by decide) (ms_12 (sc := t)) dX8_reaches_132 (fun H locs hI hS => ?_)
                  refine lv_iload_n S.1 S.2.1 dX8_reaches_133 rfl (lv_at hl 2 rfl) ?_
                  refine ly_ifne (tgt := 142) S bI_e2 bI_e1 dX8_reaches_134 (by decide) (fun h6 => ?_) (fun h6 => ?_)
                  · skip
                    refine lv_iconst (v := nI 1) S.1 S.2.1 dX8_reaches_142 (by decide) ?_
                    refine lv_goto (tgt := 147) S.1 S.2.1 dX8_reaches_143 (by decide) ?_
                    refine ly_top (z := bI (anyG (rws w op mu ba en pr ci) (rcS w op mu ba en pr lap ci) (k + 1))) (by rw [anyG_s (by omega), h6]; rfl) ?_
                    refine lv_istore_n (lv' := [(2, .int (bI (anyG (rws w op mu ba en pr ci) (rcS w op mu ba en pr lap ci) (k + 1)))), (0, .ref (a 0)), (1, .int (nI ci)), (3, .int (nI k)), (4, .int (bI (rcS w op mu ba en pr lap ci ((rws w op mu ba en pr ci).getD k 0)))), (5, .int (nI j))]) S.1 S.2.1 dX8_reaches_147 rfl hl (by decide) rfl (fun ls hl => ?_)
                    refine lv_iinc (v := nI (k + 1)) (lv' := [(3, .int (nI (k + 1))), (2, .int (bI (anyG (rws w op mu ba en pr ci) (rcS w op mu ba en pr lap ci) (k + 1)))), (0, .ref (a 0)), (1, .int (nI ci)), (4, .int (bI (rcS w op mu ba en pr lap ci ((rws w op mu ba en pr ci).getD k 0)))), (5, .int (nI j))]) S.1 S.2.1 dX8_reaches_148 hl (k := 3) rfl (nJ_in _ _) (by decide) rfl (fun ls hl => ?_)
                    refine lv_goto (tgt := 4) S.1 S.2.1 dX8_reaches_151 (by decide) ?_
                    exact ih4 (k + 1) (t.1, t.2.1, t.2.2.1, t.2.2.2.1, t.2.2.2.2.1, va_up t.2.2.2.2.2 ((512 * ci) + k) (rcS w op mu ba en pr lap ci ((rws w op mu ba en pr ci).getD k 0))) _ _ (by omega) i2 i3 i4 (re_s i5) (re_o i6) hI hS (by omega) _ (lv_sub hl [2, 3, 1, 0] rfl)
                  · skip
                    refine lv_iload S.1 S.2.1 dX8_reaches_137 (lv_at hl 4 rfl) ?_
                    refine ly_ifeq (tgt := 146) S bI_e1 bI_e2 dX8_reaches_139 (by decide) (fun h7 => ?_) (fun h7 => ?_)
                    · skip
                      refine lv_iconst (v := nI 0) S.1 S.2.1 dX8_reaches_146 (by decide) ?_
                      refine ly_top (z := bI (anyG (rws w op mu ba en pr ci) (rcS w op mu ba en pr lap ci) (k + 1))) (by rw [anyG_s (by omega), h6, h7]; rfl) ?_
                      refine lv_istore_n (lv' := [(2, .int (bI (anyG (rws w op mu ba en pr ci) (rcS w op mu ba en pr lap ci) (k + 1)))), (0, .ref (a 0)), (1, .int (nI ci)), (3, .int (nI k)), (4, .int (bI (rcS w op mu ba en pr lap ci ((rws w op mu ba en pr ci).getD k 0)))), (5, .int (nI j))]) S.1 S.2.1 dX8_reaches_147 rfl hl (by decide) rfl (fun ls hl => ?_)
                      refine lv_iinc (v := nI (k + 1)) (lv' := [(3, .int (nI (k + 1))), (2, .int (bI (anyG (rws w op mu ba en pr ci) (rcS w op mu ba en pr lap ci) (k + 1)))), (0, .ref (a 0)), (1, .int (nI ci)), (4, .int (bI (rcS w op mu ba en pr lap ci ((rws w op mu ba en pr ci).getD k 0)))), (5, .int (nI j))]) S.1 S.2.1 dX8_reaches_148 hl (k := 3) rfl (nJ_in _ _) (by decide) rfl (fun ls hl => ?_)
                      refine lv_goto (tgt := 4) S.1 S.2.1 dX8_reaches_151 (by decide) ?_
                      exact ih4 (k + 1) (t.1, t.2.1, t.2.2.1, t.2.2.2.1, t.2.2.2.2.1, va_up t.2.2.2.2.2 ((512 * ci) + k) (rcS w op mu ba en pr lap ci ((rws w op mu ba en pr ci).getD k 0))) _ _ (by omega) i2 i3 i4 (re_s i5) (re_o i6) hI hS (by omega) _ (lv_sub hl [2, 3, 1, 0] rfl)
                    · skip
                      refine lv_iconst (v := nI 1) S.1 S.2.1 dX8_reaches_142 (by decide) ?_
                      refine lv_goto (tgt := 147) S.1 S.2.1 dX8_reaches_143 (by decide) ?_
                      refine ly_top (z := bI (anyG (rws w op mu ba en pr ci) (rcS w op mu ba en pr lap ci) (k + 1))) (by rw [anyG_s (by omega), h6, h7]; rfl) ?_
                      refine lv_istore_n (lv' := [(2, .int (bI (anyG (rws w op mu ba en pr ci) (rcS w op mu ba en pr lap ci) (k + 1)))), (0, .ref (a 0)), (1, .int (nI ci)), (3, .int (nI k)), (4, .int (bI (rcS w op mu ba en pr lap ci ((rws w op mu ba en pr ci).getD k 0)))), (5, .int (nI j))]) S.1 S.2.1 dX8_reaches_147 rfl hl (by decide) rfl (fun ls hl => ?_)
                      refine lv_iinc (v := nI (k + 1)) (lv' := [(3, .int (nI (k + 1))), (2, .int (bI (anyG (rws w op mu ba en pr ci) (rcS w op mu ba en pr lap ci) (k + 1)))), (0, .ref (a 0)), (1, .int (nI ci)), (4, .int (bI (rcS w op mu ba en pr lap ci ((rws w op mu ba en pr ci).getD k 0)))), (5, .int (nI j))]) S.1 S.2.1 dX8_reaches_148 hl (k := 3) rfl (nJ_in _ _) (by decide) rfl (fun ls hl => ?_)
                      refine lv_goto (tgt := 4) S.1 S.2.1 dX8_reaches_151 (by decide) ?_
                      exact ih4 (k + 1) (t.1, t.2.1, t.2.2.1, t.2.2.2.1, t.2.2.2.2.1, va_up t.2.2.2.2.2 ((512 * ci) + k) (rcS w op mu ba en pr lap ci ((rws w op mu ba en pr ci).getD k 0))) _ _ (by omega) i2 i3 i4 (re_s i5) (re_o i6) hI hS (by omega) _ (lv_sub hl [2, 3, 1, 0] rfl)
                · skip
                  refine lv_iload S.1 S.2.1 dX8_reaches_45 (lv_at hl 4 rfl) ?_
                  refine ly_ifne (tgt := 119) S bI_e2 bI_e1 dX8_reaches_47 (by decide) (fun h8 => ?_) (fun h8 => ?_)
                  · skip
                    have ef : (decide (ci = 0) || anyG (rws w op mu ba en pr (ci - 1)) (fun i9 => rcS w op mu ba en pr lap (ci - 1) i9 && cmpt lap i9 ((rws w op mu ba en pr ci).getD k 0)) j) = rcS w op mu ba en pr lap ci ((rws w op mu ba en pr ci).getD k 0) := rc_t h2 h8
                    rw [ef] at hl
                    refine lv_aload_n S.1 S.2.1 dX8_reaches_119 rfl (lv_at hl 0 rfl) ?_
                    refine g8 S hI 0 rfl 14 (by decide) tw_621 rfl dX8_reaches_120 ?_
                    refine lv_sipush (v := nI 512) S.1 S.2.1 dX8_reaches_123 (by decide) ?_
                    refine lv_iload_n S.1 S.2.1 dX8_reaches_126 rfl (lv_at hl 1 rfl) ?_
                    refine lv_imul S.1 S.2.1 dX8_reaches_127 ?_
                    refine ly_top (z := nI (512 * ci)) (pk_mul _ _) ?_
                    refine lv_iload_n S.1 S.2.1 dX8_reaches_128 rfl (lv_at hl 3 rfl) ?_
                    refine lv_iadd S.1 S.2.1 dX8_reaches_129 ?_
                    refine ly_top (z := nI ((512 * ci) + k)) (nI_add _ _) ?_
                    refine lv_iload S.1 S.2.1 dX8_reaches_130 (lv_at hl 4 rfl) ?_
                    refine ly_zast (ws' := (mW K a w n lap op mu ba la en pr (t.1, t.2.1, t.2.2.1, t.2.2.2.1, t.2.2.2.2.1, va_up t.2.2.2.2.2 ((512 * ci) + k) (rcS w op mu ba en pr lap ci ((rws w op mu ba en pr ci).getD k 0))))) S hI (mD hDis) hS 12 rfl (by omega) (by decide) (ms_12 (sc := t)) dX8_reaches_132 (fun H locs hI hS => ?_)
                    refine lv_iload_n S.1 S.2.1 dX8_reaches_133 rfl (lv_at hl 2 rfl) ?_
                    refine ly_ifne (tgt := 142) S bI_e2 bI_e1 dX8_reaches_134 (by decide) (fun h9 => ?_) (fun h9 => ?_)
                    · skip
                      refine lv_iconst (v := nI 1) S.1 S.2.1 dX8_reaches_142 (by decide) ?_
                      refine lv_goto (tgt := 147) S.1 S.2.1 dX8_reaches_143 (by decide) ?_
                      refine ly_top (z := bI (anyG (rws w op mu ba en pr ci) (rcS w op mu ba en pr lap ci) (k + 1))) (by rw [anyG_s (by omega), h9]; rfl) ?_
                      refine lv_istore_n (lv' := [(2, .int (bI (anyG (rws w op mu ba en pr ci) (rcS w op mu ba en pr lap ci) (k + 1)))), (0, .ref (a 0)), (1, .int (nI ci)), (3, .int (nI k)), (4, .int (bI (rcS w op mu ba en pr lap ci ((rws w op mu ba en pr ci).getD k 0)))), (5, .int (nI j))]) S.1 S.2.1 dX8_reaches_147 rfl hl (by decide) rfl (fun ls hl => ?_)
                      refine lv_iinc (v := nI (k + 1)) (lv' := [(3, .int (nI (k + 1))), (2, .int (bI (anyG (rws w op mu ba en pr ci) (rcS w op mu ba en pr lap ci) (k + 1)))), (0, .ref (a 0)), (1, .int (nI ci)), (4, .int (bI (rcS w op mu ba en pr lap ci ((rws w op mu ba en pr ci).getD k 0)))), (5, .int (nI j))]) S.1 S.2.1 dX8_reaches_148 hl (k := 3) rfl (nJ_in _ _) (by decide) rfl (fun ls hl => ?_)
                      refine lv_goto (tgt := 4) S.1 S.2.1 dX8_reaches_151 (by decide) ?_
                      exact ih4 (k + 1) (t.1, t.2.1, t.2.2.1, t.2.2.2.1, t.2.2.2.2.1, va_up t.2.2.2.2.2 ((512 * ci) + k) (rcS w op mu ba en pr lap ci ((rws w op mu ba en pr ci).getD k 0))) _ _ (by omega) i2 i3 i4 (re_s i5) (re_o i6) hI hS (by omega) _ (lv_sub hl [2, 3, 1, 0] rfl)
                    · skip
                      refine lv_iload S.1 S.2.1 dX8_reaches_137 (lv_at hl 4 rfl) ?_
                      refine ly_ifeq (tgt := 146) S bI_e1 bI_e2 dX8_reaches_139 (by decide) (fun h10 => ?_) (fun h10 => ?_)
                      · skip
                        refine lv_iconst (v := nI 0) S.1 S.2.1 dX8_reaches_146 (by decide) ?_
                        refine ly_top (z := bI (anyG (rws w op mu ba en pr ci) (rcS w op mu ba en pr lap ci) (k + 1))) (by rw [anyG_s (by omega), h9, h10]; rfl) ?_
                        refine lv_istore_n (lv' := [(2, .int (bI (anyG (rws w op mu ba en pr ci) (rcS w op mu ba en pr lap ci) (k + 1)))), (0, .ref (a 0)), (1, .int (nI ci)), (3, .int (nI k)), (4, .int (bI (rcS w op mu ba en pr lap ci ((rws w op mu ba en pr ci).getD k 0)))), (5, .int (nI j))]) S.1 S.2.1 dX8_reaches_147 rfl hl (by decide) rfl (fun ls hl => ?_)
                        refine lv_iinc (v := nI (k + 1)) (lv' := [(3, .int (nI (k + 1))), (2, .int (bI (anyG (rws w op mu ba en pr ci) (rcS w op mu ba en pr lap ci) (k + 1)))), (0, .ref (a 0)), (1, .int (nI ci)), (4, .int (bI (rcS w op mu ba en pr lap ci ((rws w op mu ba en pr ci).getD k 0)))), (5, .int (nI j))]) S.1 S.2.1 dX8_reaches_148 hl (k := 3) rfl (nJ_in _ _) (by decide) rfl (fun ls hl => ?_)
                        refine lv_goto (tgt := 4) S.1 S.2.1 dX8_reaches_151 (by decide) ?_
                        exact ih4 (k + 1) (t.1, t.2.1, t.2.2.1, t.2.2.2.1, t.2.2.2.2.1, va_up t.2.2.2.2.2 ((512 * ci) + k) (rcS w op mu ba en pr lap ci ((rws w op mu ba en pr ci).getD k 0))) _ _ (by omega) i2 i3 i4 (re_s i5) (re_o i6) hI hS (by omega) _ (lv_sub hl [2, 3, 1, 0] rfl)
                      · skip
                        refine lv_iconst (v := nI 1) S.1 S.2.1 dX8_reaches_142 (by decide) ?_
                        refine lv_goto (tgt := 147) S.1 S.2.1 dX8_reaches_143 (by decide) ?_
                        refine ly_top (z := bI (anyG (rws w op mu ba en pr ci) (rcS w op mu ba en pr lap ci) (k + 1))) (by rw [anyG_s (by omega), h9, h10]; rfl) ?_
                        refine lv_istore_n (lv' := [(2, .int (bI (anyG (rws w op mu ba en pr ci) (rcS w op mu ba en pr lap ci) (k + 1)))), (0, .ref (a 0)), (1, .int (nI ci)), (3, .int (nI k)), (4, .int (bI (rcS w op mu ba en pr lap ci ((rws w op mu ba en pr ci).getD k 0)))), (5, .int (nI j))]) S.1 S.2.1 dX8_reaches_147 rfl hl (by decide) rfl (fun ls hl => ?_)
                        refine lv_iinc (v := nI (k + 1)) (lv' := [(3, .int (nI (k + 1))), (2, .int (bI (anyG (rws w op mu ba en pr ci) (rcS w op mu ba en pr lap ci) (k + 1)))), (0, .ref (a 0)), (1, .int (nI ci)), (4, .int (bI (rcS w op mu ba en pr lap ci ((rws w op mu ba en pr ci).getD k 0)))), (5, .int (nI j))]) S.1 S.2.1 dX8_reaches_148 hl (k := 3) rfl (nJ_in _ _) (by decide) rfl (fun ls hl => ?_)
                        refine lv_goto (tgt := 4) S.1 S.2.1 dX8_reaches_151 (by decide) ?_
                        exact ih4 (k + 1) (t.1, t.2.1, t.2.2.1, t.2.2.2.1, t.2.2.2.2.1, va_up t.2.2.2.2.2 ((512 * ci) + k) (rcS w op mu ba en pr lap ci ((rws w op mu ba en pr ci).getD k 0))) _ _ (by omega) i2 i3 i4 (re_s i5) (re_o i6) hI hS (by omega) _ (lv_sub hl [2, 3, 1, 0] rfl)
                  · skip
                    have j3 : j < (rws w op mu ba en pr (ci - 1)).length := by omega
                    have x1 : t.2.2.2.2.2 (512 * (ci - 1) + j) = rcS w op mu ba en pr lap (ci - 1) ((rws w op mu ba en pr (ci - 1)).getD j 0) := by rw [i6 _ (by omega)]; exact p3 j j3
                    have x2 : t.2.1 (512 * (ci - 1) + j) = 2 * (rws w op mu ba en pr (ci - 1)).getD j 0 := by rw [i3]; exact p2 j j3
                    have x3 : t.2.1 (512 * ci + k) = 2 * (rws w op mu ba en pr ci).getD k 0 := by rw [i3]; exact hr0.2 k (by omega)
                    have x4 := i4.2.1 (512 * (ci - 1) + j)
                    have x5 := i4.2.1 (512 * ci + k)
                    refine lv_aload_n S.1 S.2.1 dX8_reaches_50 rfl (lv_at hl 0 rfl) ?_
                    refine g8 S hI 0 rfl 14 (by decide) tw_621 rfl dX8_reaches_51 ?_
                    refine lv_sipush (v := nI 512) S.1 S.2.1 dX8_reaches_54 (by decide) ?_
                    refine lv_iload_n S.1 S.2.1 dX8_reaches_57 rfl (lv_at hl 1 rfl) ?_
                    refine lv_iconst (v := nI 1) S.1 S.2.1 dX8_reaches_58 (by decide) ?_
                    refine lv_isub S.1 S.2.1 dX8_reaches_59 ?_
                    refine ly_top (z := nI (ci - 1)) (pk_sub (by omega)) ?_
                    refine lv_imul S.1 S.2.1 dX8_reaches_60 ?_
                    refine ly_top (z := nI (512 * (ci - 1))) (pk_mul _ _) ?_
                    refine lv_iload S.1 S.2.1 dX8_reaches_61 (lv_at hl 5 rfl) ?_
                    refine lv_iadd S.1 S.2.1 dX8_reaches_63 ?_
                    refine ly_top (z := nI ((512 * (ci - 1)) + j)) (nI_add _ _) ?_
                    refine ly_zald (v := (bI (t.2.2.2.2.2 ((512 * (ci - 1)) + j)))) S hI 12 rfl (by omega) (by decide) rfl dX8_reaches_64 ?_
                    refine ly_top (z := (bI (rcS w op mu ba en pr lap (ci - 1) ((rws w op mu ba en pr (ci - 1)).getD j 0)))) (by rw [x1]) ?_
                    refine ly_ifeq (tgt := 110) S bI_e1 bI_e2 dX8_reaches_65 (by decide) (fun h11 => ?_) (fun h11 => ?_)
                    · skip
                      refine lv_iconst (v := nI 0) S.1 S.2.1 dX8_reaches_110 (by decide) ?_
                      refine ly_top (z := bI ((decide (ci = 0) || anyG (rws w op mu ba en pr (ci - 1)) (fun i9 => rcS w op mu ba en pr lap (ci - 1) i9 && cmpt lap i9 ((rws w op mu ba en pr ci).getD k 0)) (j + 1)))) (by rw [show ((decide (ci = 0) || anyG (rws w op mu ba en pr (ci - 1)) (fun i9 => rcS w op mu ba en pr lap (ci - 1) i9 && cmpt lap i9 ((rws w op mu ba en pr ci).getD k 0)) (j + 1))) = false from rc_s0a j3 h8 h11]; rfl) ?_
                      refine lv_istore (lv' := [(4, .int (bI (decide (ci = 0) || anyG (rws w op mu ba en pr (ci - 1)) (fun i9 => rcS w op mu ba en pr lap (ci - 1) i9 && cmpt lap i9 ((rws w op mu ba en pr ci).getD k 0)) (j + 1)))), (0, .ref (a 0)), (1, .int (nI ci)), (2, .int (bI (anyG (rws w op mu ba en pr ci) (rcS w op mu ba en pr lap ci) k))), (3, .int (nI k)), (5, .int (nI j))]) S.1 S.2.1 dX8_reaches_111 hl (by decide) rfl (fun ls hl => ?_)
                      refine lv_iinc (v := nI (j + 1)) (lv' := [(5, .int (nI (j + 1))), (4, .int (bI (decide (ci = 0) || anyG (rws w op mu ba en pr (ci - 1)) (fun i9 => rcS w op mu ba en pr lap (ci - 1) i9 && cmpt lap i9 ((rws w op mu ba en pr ci).getD k 0)) (j + 1)))), (0, .ref (a 0)), (1, .int (nI ci)), (2, .int (bI (anyG (rws w op mu ba en pr ci) (rcS w op mu ba en pr lap ci) k))), (3, .int (nI k))]) S.1 S.2.1 dX8_reaches_113 hl (k := 5) rfl (nJ_in _ _) (by decide) rfl (fun ls hl => ?_)
                      refine lv_goto (tgt := 28) S.1 S.2.1 dX8_reaches_116 (by decide) ?_
                      exact ih28 (j + 1) (fun _ => by omega) (by omega) _ (lv_sub hl [2, 3, 4, 5, 1, 0] rfl)
                    · skip
                      refine lv_aload_n S.1 S.2.1 dX8_reaches_68 rfl (lv_at hl 0 rfl) ?_
                      refine g8 S hI 0 rfl 10 (by decide) tw_617 rfl dX8_reaches_69 ?_
                      refine lv_sipush (v := nI 512) S.1 S.2.1 dX8_reaches_72 (by decide) ?_
                      refine lv_iload_n S.1 S.2.1 dX8_reaches_75 rfl (lv_at hl 1 rfl) ?_
                      refine lv_iconst (v := nI 1) S.1 S.2.1 dX8_reaches_76 (by decide) ?_
                      refine lv_isub S.1 S.2.1 dX8_reaches_77 ?_
                      refine ly_top (z := nI (ci - 1)) (pk_sub (by omega)) ?_
                      refine lv_imul S.1 S.2.1 dX8_reaches_78 ?_
                      refine ly_top (z := nI (512 * (ci - 1))) (pk_mul _ _) ?_
                      refine lv_iload S.1 S.2.1 dX8_reaches_79 (lv_at hl 5 rfl) ?_
                      refine lv_iadd S.1 S.2.1 dX8_reaches_81 ?_
                      refine ly_top (z := nI ((512 * (ci - 1)) + j)) (nI_add _ _) ?_
                      refine ly_iald (v := (nI (t.2.1 ((512 * (ci - 1)) + j)))) S hI 8 rfl (by omega) (by decide) rfl dX8_reaches_82 ?_
                      refine ly_top (z := (nI (2 * (rws w op mu ba en pr (ci - 1)).getD j 0))) (by rw [x2]) ?_
                      refine lv_aload_n S.1 S.2.1 dX8_reaches_83 rfl (lv_at hl 0 rfl) ?_
                      refine g8 S hI 0 rfl 8 (by decide) tw_615 rfl dX8_reaches_84 ?_
                      refine kX8_around S (by omega) (by omega) (by omega) tw_765 (rok (by decide)) hl.1 (Nat.le_of_ble_eq_true rfl) dX8_reaches_87 ?_
                      have b12 : arG (2 * (rws w op mu ba en pr (ci - 1)).getD j 0) lap < 4096 := arG_lt (by omega) _ (by omega)
                      refine lv_aload_n S.1 S.2.1 dX8_reaches_90 rfl (lv_at hl 0 rfl) ?_
                      refine g8 S hI 0 rfl 10 (by decide) tw_617 rfl dX8_reaches_91 ?_
                      refine lv_sipush (v := nI 512) S.1 S.2.1 dX8_reaches_94 (by decide) ?_
                      refine lv_iload_n S.1 S.2.1 dX8_reaches_97 rfl (lv_at hl 1 rfl) ?_
                      refine lv_imul S.1 S.2.1 dX8_reaches_98 ?_
                      refine ly_top (z := nI (512 * ci)) (pk_mul _ _) ?_
                      refine lv_iload_n S.1 S.2.1 dX8_reaches_99 rfl (lv_at hl 3 rfl) ?_
                      refine lv_iadd S.1 S.2.1 dX8_reaches_100 ?_
                      refine ly_top (z := nI ((512 * ci) + k)) (nI_add _ _) ?_
                      refine ly_iald (v := (nI (t.2.1 ((512 * ci) + k)))) S hI 8 rfl (by omega) (by decide) rfl dX8_reaches_101 ?_
                      refine ly_top (z := (nI (2 * (rws w op mu ba en pr ci).getD k 0))) (by rw [x3]) ?_
                      refine lv_iand S.1 S.2.1 dX8_reaches_102 ?_
                      refine ly_top (z := nI ((arG (2 * (rws w op mu ba en pr (ci - 1)).getD j 0) lap) &&& (2 * (rws w op mu ba en pr ci).getD k 0))) (nI_and (by omega) (by omega)) ?_
                      refine ly_ifne (tgt := 110) S (nI_z2 (Nat.lt_of_le_of_lt Nat.and_le_right (by omega))) (nI_z1 (Nat.lt_of_le_of_lt Nat.and_le_right (by omega))) dX8_reaches_103 (by decide) (fun h13 => ?_) (fun h13 => ?_)
                      · skip
                        refine lv_iconst (v := nI 0) S.1 S.2.1 dX8_reaches_110 (by decide) ?_
                        refine ly_top (z := bI ((decide (ci = 0) || anyG (rws w op mu ba en pr (ci - 1)) (fun i9 => rcS w op mu ba en pr lap (ci - 1) i9 && cmpt lap i9 ((rws w op mu ba en pr ci).getD k 0)) (j + 1)))) (by rw [show ((decide (ci = 0) || anyG (rws w op mu ba en pr (ci - 1)) (fun i9 => rcS w op mu ba en pr lap (ci - 1) i9 && cmpt lap i9 ((rws w op mu ba en pr ci).getD k 0)) (j + 1))) = false from rc_s0b j3 h8 h11 h13]; rfl) ?_
                        refine lv_istore (lv' := [(4, .int (bI (decide (ci = 0) || anyG (rws w op mu ba en pr (ci - 1)) (fun i9 => rcS w op mu ba en pr lap (ci - 1) i9 && cmpt lap i9 ((rws w op mu ba en pr ci).getD k 0)) (j + 1)))), (0, .ref (a 0)), (1, .int (nI ci)), (2, .int (bI (anyG (rws w op mu ba en pr ci) (rcS w op mu ba en pr lap ci) k))), (3, .int (nI k)), (5, .int (nI j))]) S.1 S.2.1 dX8_reaches_111 hl (by decide) rfl (fun ls hl => ?_)
                        refine lv_iinc (v := nI (j + 1)) (lv' := [(5, .int (nI (j + 1))), (4, .int (bI (decide (ci = 0) || anyG (rws w op mu ba en pr (ci - 1)) (fun i9 => rcS w op mu ba en pr lap (ci - 1) i9 && cmpt lap i9 ((rws w op mu ba en pr ci).getD k 0)) (j + 1)))), (0, .ref (a 0)), (1, .int (nI ci)), (2, .int (bI (anyG (rws w op mu ba en pr ci) (rcS w op mu ba en pr lap ci) k))), (3, .int (nI k))]) S.1 S.2.1 dX8_reaches_113 hl (k := 5) rfl (nJ_in _ _) (by decide) rfl (fun ls hl => ?_)
                        refine lv_goto (tgt := 28) S.1 S.2.1 dX8_reaches_116 (by decide) ?_
                        exact ih28 (j + 1) (fun _ => by omega) (by omega) _ (lv_sub hl [2, 3, 4, 5, 1, 0] rfl)
                      · skip
                        refine lv_iconst (v := nI 1) S.1 S.2.1 dX8_reaches_106 (by decide) ?_
                        refine lv_goto (tgt := 111) S.1 S.2.1 dX8_reaches_107 (by decide) ?_
                        refine ly_top (z := bI ((decide (ci = 0) || anyG (rws w op mu ba en pr (ci - 1)) (fun i9 => rcS w op mu ba en pr lap (ci - 1) i9 && cmpt lap i9 ((rws w op mu ba en pr ci).getD k 0)) (j + 1)))) (by rw [show ((decide (ci = 0) || anyG (rws w op mu ba en pr (ci - 1)) (fun i9 => rcS w op mu ba en pr lap (ci - 1) i9 && cmpt lap i9 ((rws w op mu ba en pr ci).getD k 0)) (j + 1))) = true from rc_s1 j3 h8 h11 h13]; rfl) ?_
                        refine lv_istore (lv' := [(4, .int (bI (decide (ci = 0) || anyG (rws w op mu ba en pr (ci - 1)) (fun i9 => rcS w op mu ba en pr lap (ci - 1) i9 && cmpt lap i9 ((rws w op mu ba en pr ci).getD k 0)) (j + 1)))), (0, .ref (a 0)), (1, .int (nI ci)), (2, .int (bI (anyG (rws w op mu ba en pr ci) (rcS w op mu ba en pr lap ci) k))), (3, .int (nI k)), (5, .int (nI j))]) S.1 S.2.1 dX8_reaches_111 hl (by decide) rfl (fun ls hl => ?_)
                        refine lv_iinc (v := nI (j + 1)) (lv' := [(5, .int (nI (j + 1))), (4, .int (bI (decide (ci = 0) || anyG (rws w op mu ba en pr (ci - 1)) (fun i9 => rcS w op mu ba en pr lap (ci - 1) i9 && cmpt lap i9 ((rws w op mu ba en pr ci).getD k 0)) (j + 1)))), (0, .ref (a 0)), (1, .int (nI ci)), (2, .int (bI (anyG (rws w op mu ba en pr ci) (rcS w op mu ba en pr lap ci) k))), (3, .int (nI k))]) S.1 S.2.1 dX8_reaches_113 hl (k := 5) rfl (nJ_in _ _) (by decide) rfl (fun ls hl => ?_)
                        refine lv_goto (tgt := 28) S.1 S.2.1 dX8_reaches_116 (by decide) ?_
                        exact ih28 (j + 1) (fun _ => by omega) (by omega) _ (lv_sub hl [2, 3, 4, 5, 1, 0] rfl)
          exact L28 _ 0 (fun _ => Nat.zero_le _) (Nat.lt_succ_self _) _ (lv_sub hl [1, 2, 3, 4, 5, 0] rfl)
        refine lv_iload_n S.1 S.2.1 dX8_reaches_14 rfl (lv_at hl 1 rfl) ?_
        refine ly_ifne (tgt := 22) S (nI_z2 (by omega)) (nI_z1 (by omega)) dX8_reaches_15 (by decide) (fun h14 => ?_) (fun h14 => ?_)
        · skip
          refine lv_iconst (v := nI 0) S.1 S.2.1 dX8_reaches_22 (by decide) ?_
          refine ly_top (z := bI ((decide (ci = 0) || anyG (rws w op mu ba en pr (ci - 1)) (fun i9 => rcS w op mu ba en pr lap (ci - 1) i9 && cmpt lap i9 ((rws w op mu ba en pr ci).getD k 0)) 0))) (by rw [show ((decide (ci = 0) || anyG (rws w op mu ba en pr (ci - 1)) (fun i9 => rcS w op mu ba en pr lap (ci - 1) i9 && cmpt lap i9 ((rws w op mu ba en pr ci).getD k 0)) 0)) = false by simp [anyG, h1, h14]]; rfl) ?_
          refine lv_istore (lv' := [(4, .int (bI (decide (ci = 0) || anyG (rws w op mu ba en pr (ci - 1)) (fun i9 => rcS w op mu ba en pr lap (ci - 1) i9 && cmpt lap i9 ((rws w op mu ba en pr ci).getD k 0)) 0))), (0, .ref (a 0)), (1, .int (nI ci)), (2, .int (bI (anyG (rws w op mu ba en pr ci) (rcS w op mu ba en pr lap ci) k))), (3, .int (nI k))]) S.1 S.2.1 dX8_reaches_23 hl (by decide) rfl (fun ls hl => ?_)
          exact J25  _ (lv_sub hl [1, 2, 3, 4, 0] rfl)
        · skip
          refine lv_iconst (v := nI 1) S.1 S.2.1 dX8_reaches_18 (by decide) ?_
          refine lv_goto (tgt := 23) S.1 S.2.1 dX8_reaches_19 (by decide) ?_
          refine ly_top (z := bI ((decide (ci = 0) || anyG (rws w op mu ba en pr (ci - 1)) (fun i9 => rcS w op mu ba en pr lap (ci - 1) i9 && cmpt lap i9 ((rws w op mu ba en pr ci).getD k 0)) 0))) (by rw [show ((decide (ci = 0) || anyG (rws w op mu ba en pr (ci - 1)) (fun i9 => rcS w op mu ba en pr lap (ci - 1) i9 && cmpt lap i9 ((rws w op mu ba en pr ci).getD k 0)) 0)) = true by simp [anyG, h1, h14]]; rfl) ?_
          refine lv_istore (lv' := [(4, .int (bI (decide (ci = 0) || anyG (rws w op mu ba en pr (ci - 1)) (fun i9 => rcS w op mu ba en pr lap (ci - 1) i9 && cmpt lap i9 ((rws w op mu ba en pr ci).getD k 0)) 0))), (0, .ref (a 0)), (1, .int (nI ci)), (2, .int (bI (anyG (rws w op mu ba en pr ci) (rcS w op mu ba en pr lap ci) k))), (3, .int (nI k))]) S.1 S.2.1 dX8_reaches_23 hl (by decide) rfl (fun ls hl => ?_)
          exact J25  _ (lv_sub hl [1, 2, 3, 4, 0] rfl)
  exact L4 _ 0 sc _ _ (Nat.zero_le _) rfl rfl hsc (fun q hq => absurd hq (Nat.not_lt_zero q)) (fun _ _ => rfl) hI hS (Nat.lt_succ_self _) _ (lv_sub hl [2, 3, 1, 0] rfl)
theorem kX8_reaches {p : Program} {l : Launch} {e : Env} {R : Room} {s : State} {m : MethodId} {args : Array Value} {below : List Frame} {meth : Method} {c : Code} {H H0 : Heap} {locs : List Loc} {cells slots : Nat} {Q : State → Prop} {cc : ByteArray} {nL index pc : Nat} {own : String} {ls : Array Slot} {rest : List Value} {D : va_G} {K : Nat → ClassId} {a : Nat → Nat} {w n lap : Nat} {op mu ba la en : Nat → Nat} {pr : Nat → Option Nat} {sc : MSc} {ci : Nat} (S : CallFix p m c cc nL s args lw_tb own) (hI : PI D K (mW K a w n lap op mu ba la en pr sc) s H) (hS : va_S (adA a 13) H0 H locs) (hDis : Dis a 13) (hG : GOK w n lap op mu ba la en pr) (hc : ci < 8) (hr0 : RowsOk w op mu ba en pr ci sc) (hr1 : 0 < ci → RowsOk w op mu ba en pr (ci - 1) sc ∧ ∀ q, q < (rws w op mu ba en pr (ci - 1)).length → sc.2.2.2.2.2 (512 * (ci - 1) + q) = rcS w op mu ba en pr lap (ci - 1) ((rws w op mu ba en pr (ci - 1)).getD q 0)) (hsc : SOK sc) (hlink : Cond.methodLink own index yX8_reaches ∈ lw_tb) (hR : RO 1 R cells slots) (hsz : ls.size = nL) (hW : (rest.map fun v => v.category).sum ≤ 8) (hdg : decode cc pc = .ok (.invokevirtual index, 3)) (kk : ∀ (u : MSc) (H1 : Heap) (locs1 : List Loc), (u.1 = sc.1 ∧ u.2.1 = sc.2.1 ∧ SOK u ∧ (∀ i, i < 512 * ci → u.2.2.2.2.2 i = sc.2.2.2.2.2 i) ∧ ∀ q, q < (rws w op mu ba en pr ci).length → u.2.2.2.2.2 (512 * ci + q) = rcS w op mu ba en pr lap ci ((rws w op mu ba en pr ci).getD q 0)) → PI D K (mW K a w n lap op mu ba la en pr u) s H1 → va_S (adA a 13) H0 H1 locs1 → H.size ≤ H1.size → (∀ q : Nat, q < H.size → ¬ (adA a 13) q → H1[q]? = H[q]?) → W p l e R s m args below meth c H1 locs1 cells slots Q (F0 m (pc + 3) ls ((.int (bI ((rws w op mu ba en pr ci).any (rcS w op mu ba en pr lap ci)))) :: rest))) : W p l e R s m args below meth c H locs cells slots Q (F0 m pc ls (.int (nI ci) :: .ref (a 0) :: rest)) :=
  kVX (As := [.int (nI ci)]) (b := a 0) S (mX8_reaches l hDis hG hc hr0 hr1 hsc) hlink tw_802 tw_35 tw_50 tw_803 (by show _ ∧ _ ∧ _ = some 1; decide +kernel) (by decide) hR blP (piU hI) (va_recv hI.2 hI.1 (ci := 8) (q0 := 0) rfl rfl) hS (fun _ h => h) hsz rfl hW hdg kk

set_option maxHeartbeats 4000000 in
set_option maxRecDepth 100000 in
theorem mX8_highest (l : Launch) {D : va_G} {K : Nat → ClassId} {a : Nat → Nat} {w n lap : Nat} {op mu ba la en : Nat → Nat} {pr : Nat → Option Nat} {sc : MSc} (hDis : Dis a 13) (hG : GOK w n lap op mu ba la en pr) (hsc : SOK sc) : Met l yX8_highest (TWd yX8_highest cX8_highest 3 (some .int)) (rmk 6) (va_Pc [.ref (a 0)] (fun U => PI D K (mW K a w n lap op mu ba la en pr sc) U U.heap)) (QX D K (fun u : MSc => some (.int (nI (hgG (fun q => (rws w op mu ba en pr q).any (rcS w op mu ba en pr lap q)) n 0)))) (fun u => (mW K a w n lap op mu ba la en pr u)) (fun u => SOK u) (adA a 13)) 0 0 (adA a 13) := by
  refine mt_of (by decide +kernel) (Nat.le_of_ble_eq_true rfl) ?_
  intro p e s m below meth c S hr hlk hI ls hl
  have S : CallFix p m c cX8_highest 3 s ([.ref (a 0)] : List Value).toArray lw_tb RX8 := S
  have hl : lv_has ls 3 [(0, .ref (a 0))] := hl
  have hS : va_S (adA a 13) s.heap s.heap [] := va_S.rf
  obtain ⟨gw1, gw2, gn, gl1, gl2, gop, gmu, gba, gla, gen, gpr, gop2, gmu2, gba2, gla2, gme, gbe, gle, gee⟩ := id hG
  refine lv_iconst (v := nI 0) S.1 S.2.1 dX8_highest_0 (by decide) ?_
  refine lv_istore_n (lv' := [(1, .int (nI 0)), (0, .ref (a 0))]) S.1 S.2.1 dX8_highest_1 rfl hl (by decide) rfl (fun ls hl => ?_)
  refine lv_iconst (v := nI 1) S.1 S.2.1 dX8_highest_2 (by decide) ?_
  refine ly_top (z := bI (true)) (by rw [show (true) = true by simp []]; rfl) ?_
  refine lv_istore_n (lv' := [(2, .int (bI true)), (1, .int (nI 0)), (0, .ref (a 0))]) S.1 S.2.1 dX8_highest_3 rfl hl (by decide) rfl (fun ls hl => ?_)
  have L4 : ∀ (f4 : Nat) (k : Nat) (g : Bool) (t : MSc) (H : Heap) (locs : List Loc), (k ≤ n) → (SOK t) → (g = true → hgG (fun q => (rws w op mu ba en pr q).any (rcS w op mu ba en pr lap q)) (n - k) k = hgG (fun q => (rws w op mu ba en pr q).any (rcS w op mu ba en pr lap q)) n 0) → (g = false → k = hgG (fun q => (rws w op mu ba en pr q).any (rcS w op mu ba en pr lap q)) n 0) → (HgOk w op mu ba en pr lap k t) → (PI D K (mW K a w n lap op mu ba la en pr t) s H) → (va_S (adA a 13) s.heap H locs) → (n - k) + (if g then 1 else 0) < f4 → ∀ (ls : Array Slot), lv_has ls 3 [(0, .ref (a 0)), (1, .int (nI k)), (2, .int (bI g))] → W p l e (rmk 6) s m ([.ref (a 0)] : List Value).toArray below meth c H locs 0 0 (MQ below (QX D K (fun u : MSc => some (.int (nI (hgG (fun q => (rws w op mu ba en pr q).any (rcS w op mu ba en pr lap q)) n 0)))) (fun u => (mW K a w n lap op mu ba la en pr u)) (fun u => SOK u) (adA a 13)) ([.ref (a 0)] : List Value).toArray s 0 0 (adA a 13)) (F0 m 4 ls []) := by
    intro f4
    induction f4 with
    | zero =>
      intro k g t H locs i1 i2 i3 i4 i5 hI hS hm
      exact absurd hm (Nat.not_lt_zero _)
    | succ f4 ih4 =>
      intro k g t H locs i1 i2 i3 i4 i5 hI hS hm4 ls hl
      refine lv_iload_n S.1 S.2.1 dX8_highest_4 rfl (lv_at hl 2 rfl) ?_
      refine ly_ifeq (tgt := 42) S bI_e1 bI_e2 dX8_highest_5 (by decide) (fun h1 => ?_) (fun h1 => ?_)
      · skip
        refine lv_iload_n S.1 S.2.1 dX8_highest_42 rfl (lv_at hl 1 rfl) ?_
        exact rw_i S hr hlk t (by rw [← i4 h1]) i2 hI hS dX8_highest_43
      · skip
        refine lv_iload_n S.1 S.2.1 dX8_highest_8 rfl (lv_at hl 1 rfl) ?_
        refine lv_aload_n S.1 S.2.1 dX8_highest_9 rfl (lv_at hl 0 rfl) ?_
        refine g8 S hI 0 rfl 1 (by decide) tw_608 rfl dX8_highest_10 ?_
        refine ly_cmge (tgt := 42) S (nI_le1 (by omega) (by omega)) (nI_le2 (by omega) (by omega)) dX8_highest_13 (by decide) (fun h2 => ?_) (fun h2 => ?_)
        · skip
          refine lv_iload_n S.1 S.2.1 dX8_highest_42 rfl (lv_at hl 1 rfl) ?_
          exact rw_i S hr hlk t (by have e := i3 h1; rw [show n - k = 0 by omega] at e; rw [← e]; rfl) i2 hI hS dX8_highest_43
        · skip
          refine lv_aload_n S.1 S.2.1 dX8_highest_16 rfl (lv_at hl 0 rfl) ?_
          refine lv_iload_n S.1 S.2.1 dX8_highest_17 rfl (lv_at hl 1 rfl) ?_
          refine kX8_findRows S hI hS hDis hG (by omega) i2 tw_712 (rok (by decide)) hl.1 (Nat.le_of_ble_eq_true rfl) dX8_highest_18 (fun u3 H locs hu3 hI hS _ _ => ?_)
          have a1 := hg_rows gw2 i5 hu3
          have a0 := hu3
          refine lv_aload_n S.1 S.2.1 dX8_highest_21 rfl (lv_at hl 0 rfl) ?_
          refine lv_iload_n S.1 S.2.1 dX8_highest_22 rfl (lv_at hl 1 rfl) ?_
          refine kX8_reaches S hI hS hDis hG (by omega) ⟨a0.1, a0.2.1⟩ (fun h0 => a1 (k - 1) (by omega)) a0.2.2.2.2.2 tw_800 (rok (by decide)) hl.1 (Nat.le_of_ble_eq_true rfl) dX8_highest_23 (fun u4 H locs hu4 hI hS _ _ => ?_)
          have b1 := hu4
          refine lv_istore_n (lv' := [(2, .int (bI ((rws w op mu ba en pr k).any (rcS w op mu ba en pr lap k)))), (0, .ref (a 0)), (1, .int (nI k))]) S.1 S.2.1 dX8_highest_26 rfl hl (by decide) rfl (fun ls hl => ?_)
          refine lv_iload_n S.1 S.2.1 dX8_highest_27 rfl (lv_at hl 2 rfl) ?_
          refine lv_iload_n S.1 S.2.1 dX8_highest_28 rfl (lv_at hl 0 rfl) ?_
          refine ly_ifeq (tgt := 36) S bI_e1 bI_e2 dX8_highest_29 (by decide) (fun h5 => ?_) (fun h5 => ?_)
          · skip
            refine lv_iconst (v := nI 0) S.1 S.2.1 dX8_highest_36 (by decide) ?_
            refine lv_iadd S.1 S.2.1 dX8_highest_37 ?_
            refine ly_top (z := nI (k + 0)) (nI_add _ _) ?_
            refine lv_istore_n (lv' := [(1, .int (nI (k + 0))), (2, .int (bI ((rws w op mu ba en pr k).any (rcS w op mu ba en pr lap k)))), (0, .ref (a 0))]) S.1 S.2.1 dX8_highest_38 rfl hl (by decide) rfl (fun ls hl => ?_)
            refine lv_goto (tgt := 4) S.1 S.2.1 dX8_highest_39 (by decide) ?_
            exact ih4 (k + 0) ((rws w op mu ba en pr k).any (rcS w op mu ba en pr lap k)) u4 _ _ (by omega) b1.2.2.1 (fun h9 => absurd h9 (by rw [h5]; decide)) (fun _ => by have e := i3 h1; rw [hgG_f (by omega) h5] at e; exact e) (hg_keep gw2 a1 a0 b1) hI hS (hm_f hm4 h1 h5) _ (lv_sub hl [2, 0, 1] rfl)
          · skip
            refine lv_iconst (v := nI 1) S.1 S.2.1 dX8_highest_32 (by decide) ?_
            refine lv_goto (tgt := 37) S.1 S.2.1 dX8_highest_33 (by decide) ?_
            refine lv_iadd S.1 S.2.1 dX8_highest_37 ?_
            refine ly_top (z := nI (k + 1)) (nI_add _ _) ?_
            refine lv_istore_n (lv' := [(1, .int (nI (k + 1))), (2, .int (bI ((rws w op mu ba en pr k).any (rcS w op mu ba en pr lap k)))), (0, .ref (a 0))]) S.1 S.2.1 dX8_highest_38 rfl hl (by decide) rfl (fun ls hl => ?_)
            refine lv_goto (tgt := 4) S.1 S.2.1 dX8_highest_39 (by decide) ?_
            exact ih4 (k + 1) ((rws w op mu ba en pr k).any (rcS w op mu ba en pr lap k)) u4 _ _ (by omega) b1.2.2.1 (fun _ => by have e := i3 h1; rw [hgG_t (by omega) h5] at e; exact e) (fun h9 => absurd h9 (by rw [h5]; decide)) (hg_next gw2 a1 a0 b1) hI hS (hm_t hm4 h1 (by omega) h5) _ (lv_sub hl [2, 0, 1] rfl)
  exact L4 _ 0 true sc _ _ (Nat.zero_le _) hsc (fun _ => rfl) (fun h => absurd h (by decide)) (fun d hd => absurd hd (Nat.not_lt_zero d)) hI hS (Nat.lt_succ_self _) _ (lv_sub hl [2, 1, 0] rfl)
theorem kX8_highest {p : Program} {l : Launch} {e : Env} {R : Room} {s : State} {m : MethodId} {args : Array Value} {below : List Frame} {meth : Method} {c : Code} {H H0 : Heap} {locs : List Loc} {cells slots : Nat} {Q : State → Prop} {cc : ByteArray} {nL index pc : Nat} {own : String} {ls : Array Slot} {rest : List Value} {D : va_G} {K : Nat → ClassId} {a : Nat → Nat} {w n lap : Nat} {op mu ba la en : Nat → Nat} {pr : Nat → Option Nat} {sc : MSc} (S : CallFix p m c cc nL s args lw_tb own) (hI : PI D K (mW K a w n lap op mu ba la en pr sc) s H) (hS : va_S (adA a 13) H0 H locs) (hDis : Dis a 13) (hG : GOK w n lap op mu ba la en pr) (hsc : SOK sc) (hlink : Cond.methodLink own index yX8_highest ∈ lw_tb) (hR : RO 6 R cells slots) (hsz : ls.size = nL) (hW : (rest.map fun v => v.category).sum ≤ 8) (hdg : decode cc pc = .ok (.invokevirtual index, 3)) (kk : ∀ (u : MSc) (H1 : Heap) (locs1 : List Loc), (SOK u) → PI D K (mW K a w n lap op mu ba la en pr u) s H1 → va_S (adA a 13) H0 H1 locs1 → H.size ≤ H1.size → (∀ q : Nat, q < H.size → ¬ (adA a 13) q → H1[q]? = H[q]?) → W p l e R s m args below meth c H1 locs1 cells slots Q (F0 m (pc + 3) ls ((.int (nI (hgG (fun q => (rws w op mu ba en pr q).any (rcS w op mu ba en pr lap q)) n 0))) :: rest))) : W p l e R s m args below meth c H locs cells slots Q (F0 m pc ls (.ref (a 0) :: rest)) :=
  kVX (As := []) (b := a 0) S (mX8_highest l hDis hG hsc) hlink tw_797 tw_798 tw_50 tw_799 (by show _ ∧ _ ∧ _ = some 0; decide +kernel) (by decide) hR blP (piU hI) (va_recv hI.2 hI.1 (ci := 8) (q0 := 0) rfl rfl) hS (fun _ h => h) hsz rfl hW hdg kk
