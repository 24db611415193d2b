set_option maxHeartbeats 4000000 in
set_option maxRecDepth 100000 in
theorem mX8_findRows (l : Launch) {D : va_G} {K : Nat → ClassId} {a : Nat → Nat} {w n lap : Nat} {op mu ba la en : Nat → Nat} {pr : Nat → Option Nat} {sc : MSc} {ci : Nat} (hDis : Dis a 13) (hG : GOK w n lap op mu ba la en pr) (hci : ci < 8) (hsc : SOK sc) : Met l yX8_findRows (TWd yX8_findRows cX8_findRows 3 none) (rmk 5) (va_Pc [.ref (a 0), .int (nI ci)] (fun U => PI D K (mW K a w n lap op mu ba la en pr sc) U U.heap)) (QX D K (fun u : MSc => none) (fun u => (mW K a w n lap op mu ba la en pr u)) (fun u => FRp (rws w op mu ba en pr ci) ci sc u) (adA a 13)) 0 0 (adA a 13) := by
  refine mt_of (by decide +kernel) (Nat.le_of_ble_eq_true rfl) ?_
  intro p e s m below meth c S hr hlk hI ls hl
  have S : CallFix p m c cX8_findRows 3 s ([.ref (a 0), .int (nI ci)] : List Value).toArray lw_tb RX8 := S
  have hl : lv_has ls 3 [(0, .ref (a 0)), (1, .int (nI ci))] := hl
  have hS : va_S (adA a 13) s.heap s.heap [] := va_S.rf
  obtain ⟨gw1, gw2, gn, gl1, gl2, gop, gmu, gba, gla, gen, gpr, gop2, gmu2, gba2, gla2, gme, gbe, gle, gee⟩ := id hG
  have sw : 1 <<< w = 2 ^ w := Nat.one_shiftLeft w
  have pw : 2 ^ w ≤ 2 ^ 10 := Nat.pow_le_pow_right (by decide) gw2
  have pw3 : 2 ^ 2 ≤ 2 ^ w := Nat.pow_le_pow_right (by decide) gw1
  have pw0 : 2 ^ w ≤ 1024 := pw
  have pw4 : 4 ≤ 2 ^ w := pw3
  have pw5 : 2 ^ w = 2 * 2 ^ (w - 1) := by conv => (lhs; rw [show w = (w - 1) + 1 by omega, Nat.pow_succ, Nat.mul_comm])
  refine lv_aload_n S.1 S.2.1 dX8_findRows_0 rfl (lv_at hl 0 rfl) ?_
  refine g8 S hI 0 rfl 9 (by decide) tw_616 rfl dX8_findRows_1 ?_
  refine lv_iload_n S.1 S.2.1 dX8_findRows_4 rfl (lv_at hl 1 rfl) ?_
  refine lv_iconst (v := nI 0) S.1 S.2.1 dX8_findRows_5 (by decide) ?_
  refine ly_iast (ws' := (mW K a w n lap op mu ba la en pr (va_up sc.1 ci 0, sc.2.1, sc.2.2.1, sc.2.2.2.1, sc.2.2.2.2.1, sc.2.2.2.2.2))) S hI (mD hDis) hS 7 rfl (by omega) (by decide) (ms_7 (sc := sc)) dX8_findRows_6 (fun H locs hI hS => ?_)
  refine lv_iconst (v := nI 0) S.1 S.2.1 dX8_findRows_7 (by decide) ?_
  refine lv_istore_n (lv' := [(2, .int (nI 0)), (0, .ref (a 0)), (1, .int (nI ci))]) S.1 S.2.1 dX8_findRows_8 rfl hl (by decide) rfl (fun ls hl => ?_)
  have L9 : ∀ (f9 : Nat) (i : Nat) (t : MSc) (H : Heap) (locs : List Loc), (i ≤ 2 ^ (w - 1)) → (FRp (rgL w op mu ba en pr ci i) ci sc t) → (PI D K (mW K a w n lap op mu ba la en pr t) s H) → (va_S (adA a 13) s.heap H locs) → 2 ^ (w - 1) - i < f9 → ∀ (ls : Array Slot), lv_has ls 3 [(0, .ref (a 0)), (1, .int (nI ci)), (2, .int (nI (2 * i)))] → W p l e (rmk 5) s m ([.ref (a 0), .int (nI ci)] : List Value).toArray below meth c H locs 0 0 (MQ below (QX D K (fun u : MSc => none) (fun u => (mW K a w n lap op mu ba la en pr u)) (fun u => FRp (rws w op mu ba en pr ci) ci sc u) (adA a 13)) ([.ref (a 0), .int (nI ci)] : List Value).toArray s 0 0 (adA a 13)) (F0 m 9 ls []) := by
    intro f9
    induction f9 with
    | zero =>
      intro i t H locs i1 i2 hI hS hm
      exact absurd hm (Nat.not_lt_zero _)
    | succ f9 ih9 =>
      intro i t H locs i1 i2 hI hS hm9 ls hl
      have c1 : t.1 ci = (rgL w op mu ba en pr ci i).length := i2.1
      have c2 := rgL_le (w := w) (op := op) (mu := mu) (ba := ba) (en := en) (pr := pr) (ci := ci) i
      refine lv_iload_n S.1 S.2.1 dX8_findRows_9 rfl (lv_at hl 2 rfl) ?_
      refine lv_iconst (v := nI 1) S.1 S.2.1 dX8_findRows_10 (by decide) ?_
      refine lv_aload_n S.1 S.2.1 dX8_findRows_11 rfl (lv_at hl 0 rfl) ?_
      refine g8 S hI 0 rfl 0 (by decide) tw_607 rfl dX8_findRows_12 ?_
      refine lv_ishl S.1 S.2.1 dX8_findRows_15 ?_
      refine ly_top (z := nI (1 <<< w)) (nI_shl (by omega) (by rw [sw]; omega)) ?_
      refine ly_top (z := (nI (2 ^ w))) (by rw [sw]) ?_
      refine ly_cmge (tgt := 62) S (nI_le1 (by omega) (by omega)) (nI_le2 (by omega) (by omega)) dX8_findRows_16 (by decide) (fun h1 => ?_) (fun h1 => ?_)
      · skip
        exact rw_v S hr hlk t rfl (by have ei : i = 2 ^ (w - 1) := (by omega); rw [ei] at i2; exact i2) hI hS dX8_findRows_62
      · skip
        refine lv_aload_n S.1 S.2.1 dX8_findRows_19 rfl (lv_at hl 0 rfl) ?_
        refine lv_iload_n S.1 S.2.1 dX8_findRows_20 rfl (lv_at hl 1 rfl) ?_
        refine lv_iload_n S.1 S.2.1 dX8_findRows_21 rfl (lv_at hl 2 rfl) ?_
        refine kX8_ruleOf S hI hG (by omega) (by omega) tw_716 (rok (by decide)) hl.1 (Nat.le_of_ble_eq_true rfl) dX8_findRows_22 ?_
        have b2 : ruF pr w (op ci) (bl op ci) (mu ci) (ba ci) (en (ci % 2 * 2)) (en (ci % 2 * 2 + 1)) (2 * i) ≤ 6 := ruF_le
        refine ly_ifne (tgt := 56) S (nI_z2 (by omega)) (nI_z1 (by omega)) dX8_findRows_25 (by decide) (fun h3 => ?_) (fun h3 => ?_)
        · skip
          refine lv_iinc (v := nI ((2 * i) + 2)) (lv' := [(2, .int (nI ((2 * i) + 2))), (0, .ref (a 0)), (1, .int (nI ci))]) S.1 S.2.1 dX8_findRows_56 hl (k := 2) rfl (nJ_in _ _) (by decide) rfl (fun ls hl => ?_)
          rw [show nI ((2 * i) + 2) = nI (2 * (i + 1)) from (by rw [Nat.mul_succ])] at hl
          refine lv_goto (tgt := 9) S.1 S.2.1 dX8_findRows_59 (by decide) ?_
          exact ih9 (i + 1) t _ _ (by omega) (by rw [rgL_f h3]; exact i2) hI hS (by omega) _ (lv_sub hl [1, 2, 0] rfl)
        · skip
          refine lv_aload_n S.1 S.2.1 dX8_findRows_28 rfl (lv_at hl 0 rfl) ?_
          refine g8 S hI 0 rfl 10 (by decide) tw_617 rfl dX8_findRows_29 ?_
          refine lv_sipush (v := nI 512) S.1 S.2.1 dX8_findRows_32 (by decide) ?_
          refine lv_iload_n S.1 S.2.1 dX8_findRows_35 rfl (lv_at hl 1 rfl) ?_
          refine lv_imul S.1 S.2.1 dX8_findRows_36 ?_
          refine ly_top (z := nI (512 * ci)) (pk_mul _ _) ?_
          refine lv_aload_n S.1 S.2.1 dX8_findRows_37 rfl (lv_at hl 0 rfl) ?_
          refine g8 S hI 0 rfl 9 (by decide) tw_616 rfl dX8_findRows_38 ?_
          refine lv_iload_n S.1 S.2.1 dX8_findRows_41 rfl (lv_at hl 1 rfl) ?_
          refine ly_iald (v := (nI (t.1 ci))) S hI 7 rfl (by omega) (by decide) rfl dX8_findRows_42 ?_
          refine lv_iadd S.1 S.2.1 dX8_findRows_43 ?_
          refine ly_top (z := nI ((512 * ci) + (t.1 ci))) (nI_add _ _) ?_
          refine lv_iload_n S.1 S.2.1 dX8_findRows_44 rfl (lv_at hl 2 rfl) ?_
          refine ly_iast (ws' := (mW K a w n lap op mu ba la en pr (t.1, va_up t.2.1 ((512 * ci) + (t.1 ci)) (2 * i), t.2.2.1, t.2.2.2.1, t.2.2.2.2.1, t.2.2.2.2.2))) S hI (mD hDis) hS 8 rfl (by omega) (by decide) (ms_8 (sc := t)) dX8_findRows_45 (fun H locs hI hS => ?_)
          refine lv_aload_n S.1 S.2.1 dX8_findRows_46 rfl (lv_at hl 0 rfl) ?_
          refine g8 S hI 0 rfl 9 (by decide) tw_616 rfl dX8_findRows_47 ?_
          refine lv_iload_n S.1 S.2.1 dX8_findRows_50 rfl (lv_at hl 1 rfl) ?_
          refine lv_dup2_11 S.1 S.2.1 dX8_findRows_51 rfl rfl ?_
          refine ly_iald (v := (nI (t.1 ci))) S hI 7 rfl (by omega) (by decide) rfl dX8_findRows_52 ?_
          refine lv_iconst (v := nI 1) S.1 S.2.1 dX8_findRows_53 (by decide) ?_
          refine lv_iadd S.1 S.2.1 dX8_findRows_54 ?_
          refine ly_top (z := nI ((t.1 ci) + 1)) (nI_add _ _) ?_
          refine ly_iast (ws' := (mW K a w n lap op mu ba la en pr (va_up t.1 ci ((t.1 ci) + 1), va_up t.2.1 ((512 * ci) + (t.1 ci)) (2 * i), t.2.2.1, t.2.2.2.1, t.2.2.2.2.1, t.2.2.2.2.2))) S hI (mD hDis) hS 7 rfl (by omega) (by decide) (ms_7 (sc := (t.1, va_up t.2.1 ((512 * ci) + (t.1 ci)) (2 * i), t.2.2.1, t.2.2.2.1, t.2.2.2.2.1, t.2.2.2.2.2))) dX8_findRows_55 (fun H locs hI hS => ?_)
          refine lv_iinc (v := nI ((2 * i) + 2)) (lv' := [(2, .int (nI ((2 * i) + 2))), (0, .ref (a 0)), (1, .int (nI ci))]) S.1 S.2.1 dX8_findRows_56 hl (k := 2) rfl (nJ_in _ _) (by decide) rfl (fun ls hl => ?_)
          rw [show nI ((2 * i) + 2) = nI (2 * (i + 1)) from (by rw [Nat.mul_succ])] at hl
          refine lv_goto (tgt := 9) S.1 S.2.1 dX8_findRows_59 (by decide) ?_
          exact ih9 (i + 1) (va_up t.1 ci ((t.1 ci) + 1), va_up t.2.1 ((512 * ci) + (t.1 ci)) (2 * i), t.2.2.1, t.2.2.2.1, t.2.2.2.2.1, t.2.2.2.2.2) _ _ (by omega) (by rw [rgL_t h3]; exact FRp_add i2 (by omega) (by omega)) hI hS (by omega) _ (lv_sub hl [1, 2, 0] rfl)
  exact L9 _ 0 (va_up sc.1 ci 0, sc.2.1, sc.2.2.1, sc.2.2.2.1, sc.2.2.2.2.1, sc.2.2.2.2.2) _ _ (Nat.zero_le _) (FRp_0 hsc) hI hS (Nat.lt_succ_self _) _ (lv_sub hl [1, 2, 0] rfl)
theorem kX8_findRows {p : Program} {l : Launch} {e : Env} {R : Room} {s : State} {m : MethodId} {args : Array Value} {below : List Frame} {meth : Method} {c : Code} {H H0 : Heap} {locs : List Loc} {cells slots : Nat} {Q : State → Prop} {cc : ByteArray} {nL index pc : Nat} {own : String} {ls : Array Slot} {rest : List Value} {D : va_G} {K : Nat → ClassId} {a : Nat → Nat} {w n lap : Nat} {op mu ba la en : Nat → Nat} {pr : Nat → Option Nat} {sc : MSc} {ci : Nat} (S : CallFix p m c cc nL s args lw_tb own) (hI : PI D K (mW K a w n lap op mu ba la en pr sc) s H) (hS : va_S (adA a 13) H0 H locs) (hDis : Dis a 13) (hG : GOK w n lap op mu ba la en pr) (hci : ci < 8) (hsc : SOK sc) (hlink : Cond.methodLink own index yX8_findRows ∈ lw_tb) (hR : RO 5 R cells slots) (hsz : ls.size = nL) (hW : (rest.map fun v => v.category).sum ≤ 8) (hdg : decode cc pc = .ok (.invokevirtual index, 3)) (kk : ∀ (u : MSc) (H1 : Heap) (locs1 : List Loc), (FRp (rws w op mu ba en pr ci) ci sc u) → PI D K (mW K a w n lap op mu ba la en pr u) s H1 → va_S (adA a 13) H0 H1 locs1 → H.size ≤ H1.size → (∀ q : Nat, q < H.size → ¬ (adA a 13) q → H1[q]? = H[q]?) → W p l e R s m args below meth c H1 locs1 cells slots Q (F0 m (pc + 3) ls (rest))) : W p l e R s m args below meth c H locs cells slots Q (F0 m pc ls (.int (nI ci) :: .ref (a 0) :: rest)) :=
  kVX (As := [.int (nI ci)]) (b := a 0) S (mX8_findRows l hDis hG hci hsc) hlink tw_714 tw_19 tw_50 tw_715 (by show _ ∧ _ ∧ _ = some 1; decide +kernel) (by decide) hR blP (piU hI) (va_recv hI.2 hI.1 (ci := 8) (q0 := 0) rfl rfl) hS (fun _ h => h) hsz rfl hW hdg kk

set_option maxHeartbeats 4000000 in
set_option maxRecDepth 100000 in
theorem mX8_findFrom (l : Launch) {D : va_G} {K : Nat → ClassId} {a : Nat → Nat} {w n lap : Nat} {op mu ba la en : Nat → Nat} {pr : Nat → Option Nat} {sc : MSc} {ci : Nat} {k : Nat} {z : Nat} (hDis : Dis a 13) (hG : GOK w n lap op mu ba la en pr) (hci : ci < n) (hk : k < 512) (hz1 : 1 ≤ z) (hz2 : z ≤ 3) (hsc : SOK sc) : Met l yX8_findFrom (TWd yX8_findFrom cX8_findFrom 11 none) (rmk 4) (va_Pc [.ref (a 0), .int (nI ci), .int (nI k), .int (nI z)] (fun U => PI D K (mW K a w n lap op mu ba la en pr sc) U U.heap)) (QX D K (fun u : MSc => none) (fun u => (mW K a w n lap op mu ba la en pr u)) (fun u => u = (sc.1, sc.2.1, va_up sc.2.2.1 (512 * ci + k) (ffV pr w op n z ci k sc), va_up sc.2.2.2.1 (512 * ci + k) (ffW n z ci k sc), sc.2.2.2.2.1, sc.2.2.2.2.2)) (adA a 13)) 0 0 (adA a 13) := by
  refine mt_of (by decide +kernel) (Nat.le_of_ble_eq_true rfl) ?_
  intro p e s m below meth c S hr hlk hI ls hl
  have S : CallFix p m c cX8_findFrom 11 s ([.ref (a 0), .int (nI ci), .int (nI k), .int (nI z)] : List Value).toArray lw_tb RX8 := S
  have hl : lv_has ls 11 [(0, .ref (a 0)), (1, .int (nI ci)), (2, .int (nI k)), (3, .int (nI z))] := hl
  have hS : va_S (adA a 13) s.heap s.heap [] := va_S.rf
  obtain ⟨gw1, gw2, gn, gl1, gl2, gop, gmu, gba, gla, gen, gpr, gop2, gmu2, gba2, gla2, gme, gbe, gle, gee⟩ := id hG
  obtain ⟨q1, q2, q30, q4⟩ := id hsc
  have q3 : ∀ i, sc.2.2.1 i ≤ 1000000000 := fun i => by have := q30 i; omega
  have o1 := q2 (512 * ci + k)
  have o2 := q1 (ci + 1)
  have il : (if ci = n - 1 then 0 else 1000000000) ≤ 1000000000 := by split <;> omega
  refine lv_sipush (v := nI 512) S.1 S.2.1 dX8_findFrom_0 (by decide) ?_
  refine lv_iload_n S.1 S.2.1 dX8_findFrom_3 rfl (lv_at hl 1 rfl) ?_
  refine lv_imul S.1 S.2.1 dX8_findFrom_4 ?_
  refine ly_top (z := nI (512 * ci)) (pk_mul _ _) ?_
  refine lv_iload_n S.1 S.2.1 dX8_findFrom_5 rfl (lv_at hl 2 rfl) ?_
  refine lv_iadd S.1 S.2.1 dX8_findFrom_6 ?_
  refine ly_top (z := nI ((512 * ci) + k)) (nI_add _ _) ?_
  refine ly_top (z := (nI (512 * ci + k))) rfl ?_
  refine lv_istore (lv' := [(4, .int (nI (512 * ci + k))), (0, .ref (a 0)), (1, .int (nI ci)), (2, .int (nI k)), (3, .int (nI z))]) S.1 S.2.1 dX8_findFrom_7 hl (by decide) rfl (fun ls hl => ?_)
  have J27 : ∀ (ls : Array Slot), lv_has ls 11 [(0, .ref (a 0)), (1, .int (nI ci)), (2, .int (nI k)), (3, .int (nI z)), (4, .int (nI (512 * ci + k))), (5, .int (nI (if ci = n - 1 then 0 else 1000000000)))] → W p l e (rmk 4) s m ([.ref (a 0), .int (nI ci), .int (nI k), .int (nI z)] : List Value).toArray below meth c s.heap [] 0 0 (MQ below (QX D K (fun u : MSc => none) (fun u => (mW K a w n lap op mu ba la en pr u)) (fun u => u = (sc.1, sc.2.1, va_up sc.2.2.1 (512 * ci + k) (ffV pr w op n z ci k sc), va_up sc.2.2.2.1 (512 * ci + k) (ffW n z ci k sc), sc.2.2.2.2.1, sc.2.2.2.2.2)) (adA a 13)) ([.ref (a 0), .int (nI ci), .int (nI k), .int (nI z)] : List Value).toArray s 0 0 (adA a 13)) (F0 m 27 ls []) := by
    intro  ls hl
    have J44 : ∀ (ls : Array Slot), lv_has ls 11 [(0, .ref (a 0)), (1, .int (nI ci)), (2, .int (nI k)), (3, .int (nI z)), (4, .int (nI (512 * ci + k))), (5, .int (nI (if ci = n - 1 then 0 else 1000000000))), (6, .long (if ci = n - 1 then 1 else 0))] → W p l e (rmk 4) s m ([.ref (a 0), .int (nI ci), .int (nI k), .int (nI z)] : List Value).toArray below meth c s.heap [] 0 0 (MQ below (QX D K (fun u : MSc => none) (fun u => (mW K a w n lap op mu ba la en pr u)) (fun u => u = (sc.1, sc.2.1, va_up sc.2.2.1 (512 * ci + k) (ffV pr w op n z ci k sc), va_up sc.2.2.2.1 (512 * ci + k) (ffW n z ci k sc), sc.2.2.2.2.1, sc.2.2.2.2.2)) (adA a 13)) ([.ref (a 0), .int (nI ci), .int (nI k), .int (nI z)] : List Value).toArray s 0 0 (adA a 13)) (F0 m 44 ls []) := by
      intro  ls hl
      refine lv_aload_n S.1 S.2.1 dX8_findFrom_44 rfl (lv_at hl 0 rfl) ?_
      refine g8 S hI 0 rfl 10 (by decide) tw_617 rfl dX8_findFrom_45 ?_
      refine lv_iload S.1 S.2.1 dX8_findFrom_48 (lv_at hl 4 rfl) ?_
      refine ly_iald (v := (nI (sc.2.1 (512 * ci + k)))) S hI 8 rfl (by omega) (by decide) rfl dX8_findFrom_50 ?_
      refine lv_iload_n S.1 S.2.1 dX8_findFrom_51 rfl (lv_at hl 3 rfl) ?_
      refine kX8_around S (by omega) (by omega) (by omega) tw_765 (rok (by decide)) hl.1 (Nat.le_of_ble_eq_true rfl) dX8_findFrom_52 ?_
      have b1 : arG (sc.2.1 (512 * ci + k)) z < 4096 := arG_lt (by omega) _ (by omega)
      refine lv_istore (lv' := [(8, .int (nI (arG (sc.2.1 (512 * ci + k)) z))), (0, .ref (a 0)), (1, .int (nI ci)), (2, .int (nI k)), (3, .int (nI z)), (4, .int (nI (512 * ci + k))), (5, .int (nI (if ci = n - 1 then 0 else 1000000000))), (6, .long (if ci = n - 1 then 1 else 0))]) S.1 S.2.1 dX8_findFrom_55 hl (by decide) rfl (fun ls hl => ?_)
      refine lv_iconst (v := nI 0) S.1 S.2.1 dX8_findFrom_57 (by decide) ?_
      refine lv_istore (lv' := [(9, .int (nI 0)), (8, .int (nI (arG (sc.2.1 (512 * ci + k)) z))), (0, .ref (a 0)), (1, .int (nI ci)), (2, .int (nI k)), (3, .int (nI z)), (4, .int (nI (512 * ci + k))), (5, .int (nI (if ci = n - 1 then 0 else 1000000000))), (6, .long (if ci = n - 1 then 1 else 0))]) S.1 S.2.1 dX8_findFrom_58 hl (by decide) rfl (fun ls hl => ?_)
      have L60 : ∀ (f60 : Nat) (q : Nat), (q ≤ ffQ n ci sc.1) → ffQ n ci sc.1 - q < f60 → ∀ (ls : Array Slot), lv_has ls 11 [(0, .ref (a 0)), (1, .int (nI ci)), (2, .int (nI k)), (3, .int (nI z)), (4, .int (nI (512 * ci + k))), (5, .int (nI (lsG sc.2.1 sc.2.2.1 (512 * (ci + 1)) (arG (sc.2.1 (512 * ci + k)) z) (if ci = n - 1 then 0 else 1000000000) q))), (6, .long (wyG sc.2.1 sc.2.2.2.1 (512 * (ci + 1)) (arG (sc.2.1 (512 * ci + k)) z) (if ci = n - 1 then 1 else 0) q)), (8, .int (nI (arG (sc.2.1 (512 * ci + k)) z))), (9, .int (nI q))] → W p l e (rmk 4) s m ([.ref (a 0), .int (nI ci), .int (nI k), .int (nI z)] : List Value).toArray below meth c s.heap [] 0 0 (MQ below (QX D K (fun u : MSc => none) (fun u => (mW K a w n lap op mu ba la en pr u)) (fun u => u = (sc.1, sc.2.1, va_up sc.2.2.1 (512 * ci + k) (ffV pr w op n z ci k sc), va_up sc.2.2.2.1 (512 * ci + k) (ffW n z ci k sc), sc.2.2.2.2.1, sc.2.2.2.2.2)) (adA a 13)) ([.ref (a 0), .int (nI ci), .int (nI k), .int (nI z)] : List Value).toArray s 0 0 (adA a 13)) (F0 m 60 ls []) := by
        intro f60
        induction f60 with
        | zero =>
          intro q i1 hm
          exact absurd hm (Nat.not_lt_zero _)
        | succ f60 ih60 =>
          intro q i1 hm60 ls hl
          have b9 := lsG_le (ra := sc.2.1) (base := 512 * (ci + 1)) (near := (arG (sc.2.1 (512 * ci + k)) z)) il q3 q
          refine lv_iload_n S.1 S.2.1 dX8_findFrom_60 rfl (lv_at hl 1 rfl) ?_
          refine lv_aload_n S.1 S.2.1 dX8_findFrom_61 rfl (lv_at hl 0 rfl) ?_
          refine g8 S hI 0 rfl 1 (by decide) tw_608 rfl dX8_findFrom_62 ?_
          refine lv_iconst (v := nI 1) S.1 S.2.1 dX8_findFrom_65 (by decide) ?_
          refine lv_isub S.1 S.2.1 dX8_findFrom_66 ?_
          refine ly_top (z := nI (n - 1)) (pk_sub (by omega)) ?_
          refine ly_cmge (tgt := 152) S (nI_le1 (by omega) (by omega)) (nI_le2 (by omega) (by omega)) dX8_findFrom_67 (by decide) (fun h2 => ?_) (fun h2 => ?_)
          · skip
            have e9 : q = ffQ n ci sc.1 := by unfold ffQ at i1 ⊢; rw [if_pos (by omega)] at i1 ⊢; omega
            refine lv_aload_n S.1 S.2.1 dX8_findFrom_152 rfl (lv_at hl 0 rfl) ?_
            refine g8 S hI 0 rfl 11 (by decide) tw_618 rfl dX8_findFrom_153 ?_
            refine lv_iload S.1 S.2.1 dX8_findFrom_156 (lv_at hl 4 rfl) ?_
            refine lv_iload S.1 S.2.1 dX8_findFrom_158 (lv_at hl 5 rfl) ?_
            refine lv_ldc S.1 S.2.1 S.2.2.2.1 (S.2.2.2.2 _ tw_764) dX8_findFrom_160 ?_
            refine ly_top (z := nI 1000000000) (by decide) ?_
            refine ly_cmne (tgt := 170) S (nI_e2 (by omega) (by omega)) (nI_e1 (by omega) (by omega)) dX8_findFrom_162 (by decide) (fun h3 => ?_) (fun h3 => ?_)
            · skip
              refine lv_iload S.1 S.2.1 dX8_findFrom_170 (lv_at hl 5 rfl) ?_
              refine lv_aload_n S.1 S.2.1 dX8_findFrom_172 rfl (lv_at hl 0 rfl) ?_
              refine lv_iload_n S.1 S.2.1 dX8_findFrom_173 rfl (lv_at hl 1 rfl) ?_
              refine lv_aload_n S.1 S.2.1 dX8_findFrom_174 rfl (lv_at hl 0 rfl) ?_
              refine g8 S hI 0 rfl 10 (by decide) tw_617 rfl dX8_findFrom_175 ?_
              refine lv_iload S.1 S.2.1 dX8_findFrom_178 (lv_at hl 4 rfl) ?_
              refine ly_iald (v := (nI (sc.2.1 (512 * ci + k)))) S hI 8 rfl (by omega) (by decide) rfl dX8_findFrom_180 ?_
              refine kX8_costOf S hI hG (by omega) (by omega) tw_768 (rok (by decide)) hl.1 (Nat.le_of_ble_eq_true rfl) dX8_findFrom_181 ?_
              have b4 : coF pr w (op ci) (sc.2.1 (512 * ci + k)) ≤ 1000 := coF_le gpr gw2 _ _
              refine lv_iadd S.1 S.2.1 dX8_findFrom_184 ?_
              refine ly_top (z := nI ((lsG sc.2.1 sc.2.2.1 (512 * (ci + 1)) (arG (sc.2.1 (512 * ci + k)) z) (if ci = n - 1 then 0 else 1000000000) q) + (coF pr w (op ci) (sc.2.1 (512 * ci + k))))) (nI_add _ _) ?_
              refine ly_top (z := (nI (ffV pr w op n z ci k sc))) (congrArg nI (ffV_2 e9 h3)) ?_
              refine ly_iast (ws' := (mW K a w n lap op mu ba la en pr (sc.1, sc.2.1, va_up sc.2.2.1 (512 * ci + k) (ffV pr w op n z ci k sc), sc.2.2.2.1, sc.2.2.2.2.1, sc.2.2.2.2.2))) S hI (mD hDis) hS 9 rfl (by omega) (by decide) (ms_9 (sc := sc)) dX8_findFrom_185 (fun H locs hI hS => ?_)
              refine lv_aload_n S.1 S.2.1 dX8_findFrom_186 rfl (lv_at hl 0 rfl) ?_
              refine g8 S hI 0 rfl 12 (by decide) tw_619 rfl dX8_findFrom_187 ?_
              refine lv_iload S.1 S.2.1 dX8_findFrom_190 (lv_at hl 4 rfl) ?_
              refine lv_lload S.1 S.2.1 dX8_findFrom_192 (lv_at hl 6 rfl) ?_
              refine ly_topl (z := (ffW n z ci k sc)) (by unfold ffW; rw [← e9]) ?_
              refine ly_last (ws' := (mW K a w n lap op mu ba la en pr (sc.1, sc.2.1, va_up sc.2.2.1 (512 * ci + k) (ffV pr w op n z ci k sc), va_up sc.2.2.2.1 (512 * ci + k) (ffW n z ci k sc), sc.2.2.2.2.1, sc.2.2.2.2.2))) S hI (mD hDis) hS 10 rfl (by omega) (by decide) (ms_10 (sc := (sc.1, sc.2.1, va_up sc.2.2.1 (512 * ci + k) (ffV pr w op n z ci k sc), sc.2.2.2.1, sc.2.2.2.2.1, sc.2.2.2.2.2))) dX8_findFrom_194 (fun H locs hI hS => ?_)
              exact rw_v S hr hlk (sc.1, sc.2.1, va_up sc.2.2.1 (512 * ci + k) (ffV pr w op n z ci k sc), va_up sc.2.2.2.1 (512 * ci + k) (ffW n z ci k sc), sc.2.2.2.2.1, sc.2.2.2.2.2) rfl rfl hI hS dX8_findFrom_195
            · skip
              refine lv_ldc S.1 S.2.1 S.2.2.2.1 (S.2.2.2.2 _ tw_764) dX8_findFrom_165 ?_
              refine ly_top (z := nI 1000000000) (by decide) ?_
              refine lv_goto (tgt := 185) S.1 S.2.1 dX8_findFrom_167 (by decide) ?_
              refine ly_top (z := (nI (ffV pr w op n z ci k sc))) (congrArg nI (ffV_1 e9 h3)) ?_
              refine ly_iast (ws' := (mW K a w n lap op mu ba la en pr (sc.1, sc.2.1, va_up sc.2.2.1 (512 * ci + k) (ffV pr w op n z ci k sc), sc.2.2.2.1, sc.2.2.2.2.1, sc.2.2.2.2.2))) S hI (mD hDis) hS 9 rfl (by omega) (by decide) (ms_9 (sc := sc)) dX8_findFrom_185 (fun H locs hI hS => ?_)
              refine lv_aload_n S.1 S.2.1 dX8_findFrom_186 rfl (lv_at hl 0 rfl) ?_
              refine g8 S hI 0 rfl 12 (by decide) tw_619 rfl dX8_findFrom_187 ?_
              refine lv_iload S.1 S.2.1 dX8_findFrom_190 (lv_at hl 4 rfl) ?_
              refine lv_lload S.1 S.2.1 dX8_findFrom_192 (lv_at hl 6 rfl) ?_
              refine ly_topl (z := (ffW n z ci k sc)) (by unfold ffW; rw [← e9]) ?_
              refine ly_last (ws' := (mW K a w n lap op mu ba la en pr (sc.1, sc.2.1, va_up sc.2.2.1 (512 * ci + k) (ffV pr w op n z ci k sc), va_up sc.2.2.2.1 (512 * ci + k) (ffW n z ci k sc), sc.2.2.2.2.1, sc.2.2.2.2.2))) S hI (mD hDis) hS 10 rfl (by omega) (by decide) (ms_10 (sc := (sc.1, sc.2.1, va_up sc.2.2.1 (512 * ci + k) (ffV pr w op n z ci k sc), sc.2.2.2.1, sc.2.2.2.2.1, sc.2.2.2.2.2))) dX8_findFrom_194 (fun H locs hI hS => ?_)
              exact rw_v S hr hlk (sc.1, sc.2.1, va_up sc.2.2.1 (512 * ci + k) (ffV pr w op n z ci k sc), va_up sc.2.2.2.1 (512 * ci + k) (ffW n z ci k sc), sc.2.2.2.2.1, sc.2.2.2.2.2) rfl rfl hI hS dX8_findFrom_195
          · skip
            have e8 : ffQ n ci sc.1 = sc.1 (ci + 1) := by unfold ffQ; rw [if_neg (by omega)]
            refine lv_iload S.1 S.2.1 dX8_findFrom_70 (lv_at hl 8 rfl) ?_
            refine lv_aload_n S.1 S.2.1 dX8_findFrom_72 rfl (lv_at hl 0 rfl) ?_
            refine g8 S hI 0 rfl 9 (by decide) tw_616 rfl dX8_findFrom_73 ?_
            refine lv_iload_n S.1 S.2.1 dX8_findFrom_76 rfl (lv_at hl 1 rfl) ?_
            refine lv_iconst (v := nI 1) S.1 S.2.1 dX8_findFrom_77 (by decide) ?_
            refine lv_iadd S.1 S.2.1 dX8_findFrom_78 ?_
            refine ly_top (z := nI (ci + 1)) (nI_add _ _) ?_
            refine ly_iald (v := (nI (sc.1 (ci + 1)))) S hI 7 rfl (by omega) (by decide) rfl dX8_findFrom_79 ?_
            refine ly_cmge (tgt := 152) S (nI_le1 (by omega) (by omega)) (nI_le2 (by omega) (by omega)) dX8_findFrom_80 (by decide) (fun h5 => ?_) (fun h5 => ?_)
            · skip
              have e9 : q = ffQ n ci sc.1 := by omega
              refine lv_aload_n S.1 S.2.1 dX8_findFrom_152 rfl (lv_at hl 0 rfl) ?_
              refine g8 S hI 0 rfl 11 (by decide) tw_618 rfl dX8_findFrom_153 ?_
              refine lv_iload S.1 S.2.1 dX8_findFrom_156 (lv_at hl 4 rfl) ?_
              refine lv_iload S.1 S.2.1 dX8_findFrom_158 (lv_at hl 5 rfl) ?_
              refine lv_ldc S.1 S.2.1 S.2.2.2.1 (S.2.2.2.2 _ tw_764) dX8_findFrom_160 ?_
              refine ly_top (z := nI 1000000000) (by decide) ?_
              refine ly_cmne (tgt := 170) S (nI_e2 (by omega) (by omega)) (nI_e1 (by omega) (by omega)) dX8_findFrom_162 (by decide) (fun h6 => ?_) (fun h6 => ?_)
              · skip
                refine lv_iload S.1 S.2.1 dX8_findFrom_170 (lv_at hl 5 rfl) ?_
                refine lv_aload_n S.1 S.2.1 dX8_findFrom_172 rfl (lv_at hl 0 rfl) ?_
                refine lv_iload_n S.1 S.2.1 dX8_findFrom_173 rfl (lv_at hl 1 rfl) ?_
                refine lv_aload_n S.1 S.2.1 dX8_findFrom_174 rfl (lv_at hl 0 rfl) ?_
                refine g8 S hI 0 rfl 10 (by decide) tw_617 rfl dX8_findFrom_175 ?_
                refine lv_iload S.1 S.2.1 dX8_findFrom_178 (lv_at hl 4 rfl) ?_
                refine ly_iald (v := (nI (sc.2.1 (512 * ci + k)))) S hI 8 rfl (by omega) (by decide) rfl dX8_findFrom_180 ?_
                refine kX8_costOf S hI hG (by omega) (by omega) tw_768 (rok (by decide)) hl.1 (Nat.le_of_ble_eq_true rfl) dX8_findFrom_181 ?_
                have b7 : coF pr w (op ci) (sc.2.1 (512 * ci + k)) ≤ 1000 := coF_le gpr gw2 _ _
                refine lv_iadd S.1 S.2.1 dX8_findFrom_184 ?_
                refine ly_top (z := nI ((lsG sc.2.1 sc.2.2.1 (512 * (ci + 1)) (arG (sc.2.1 (512 * ci + k)) z) (if ci = n - 1 then 0 else 1000000000) q) + (coF pr w (op ci) (sc.2.1 (512 * ci + k))))) (nI_add _ _) ?_
                refine ly_top (z := (nI (ffV pr w op n z ci k sc))) (congrArg nI (ffV_2 e9 h6)) ?_
                refine ly_iast (ws' := (mW K a w n lap op mu ba la en pr (sc.1, sc.2.1, va_up sc.2.2.1 (512 * ci + k) (ffV pr w op n z ci k sc), sc.2.2.2.1, sc.2.2.2.2.1, sc.2.2.2.2.2))) S hI (mD hDis) hS 9 rfl (by omega) (by decide) (ms_9 (sc := sc)) dX8_findFrom_185 (fun H locs hI hS => ?_)
                refine lv_aload_n S.1 S.2.1 dX8_findFrom_186 rfl (lv_at hl 0 rfl) ?_
                refine g8 S hI 0 rfl 12 (by decide) tw_619 rfl dX8_findFrom_187 ?_
                refine lv_iload S.1 S.2.1 dX8_findFrom_190 (lv_at hl 4 rfl) ?_
                refine lv_lload S.1 S.2.1 dX8_findFrom_192 (lv_at hl 6 rfl) ?_
                refine ly_topl (z := (ffW n z ci k sc)) (by unfold ffW; rw [← e9]) ?_
                refine ly_last (ws' := (mW K a w n lap op mu ba la en pr (sc.1, sc.2.1, va_up sc.2.2.1 (512 * ci + k) (ffV pr w op n z ci k sc), va_up sc.2.2.2.1 (512 * ci + k) (ffW n z ci k sc), sc.2.2.2.2.1, sc.2.2.2.2.2))) S hI (mD hDis) hS 10 rfl (by omega) (by decide) (ms_10 (sc := (sc.1, sc.2.1, va_up sc.2.2.1 (512 * ci + k) (ffV pr w op n z ci k sc), sc.2.2.2.1, sc.2.2.2.2.1, sc.2.2.2.2.2))) dX8_findFrom_194 (fun H locs hI hS => ?_)
                exact rw_v S hr hlk (sc.1, sc.2.1, va_up sc.2.2.1 (512 * ci + k) (ffV pr w op n z ci k sc), va_up sc.2.2.2.1 (512 * ci + k) (ffW n z ci k sc), sc.2.2.2.2.1, sc.2.2.2.2.2) rfl rfl hI hS dX8_findFrom_195
              · skip
                refine lv_ldc S.1 S.2.1 S.2.2.2.1 (S.2.2.2.2 _ tw_764) dX8_findFrom_165 ?_
                refine ly_top (z := nI 1000000000) (by decide) ?_
                refine lv_goto (tgt := 185) S.1 S.2.1 dX8_findFrom_167 (by decide) ?_
                refine ly_top (z := (nI (ffV pr w op n z ci k sc))) (congrArg nI (ffV_1 e9 h6)) ?_
                refine ly_iast (ws' := (mW K a w n lap op mu ba la en pr (sc.1, sc.2.1, va_up sc.2.2.1 (512 * ci + k) (ffV pr w op n z ci k sc), sc.2.2.2.1, sc.2.2.2.2.1, sc.2.2.2.2.2))) S hI (mD hDis) hS 9 rfl (by omega) (by decide) (ms_9 (sc := sc)) dX8_findFrom_185 (fun H locs hI hS => ?_)
                refine lv_aload_n S.1 S.2.1 dX8_findFrom_186 rfl (lv_at hl 0 rfl) ?_
                refine g8 S hI 0 rfl 12 (by decide) tw_619 rfl dX8_findFrom_187 ?_
                refine lv_iload S.1 S.2.1 dX8_findFrom_190 (lv_at hl 4 rfl) ?_
                refine lv_lload S.1 S.2.1 dX8_findFrom_192 (lv_at hl 6 rfl) ?_
                refine ly_topl (z := (ffW n z ci k sc)) (by unfold ffW; rw [← e9]) ?_
                refine ly_last (ws' := (mW K a w n lap op mu ba la en pr (sc.1, sc.2.1, va_up sc.2.2.1 (512 * ci + k) (ffV pr w op n z ci k sc), va_up sc.2.2.2.1 (512 * ci + k) (ffW n z ci k sc), sc.2.2.2.2.1, sc.2.2.2.2.2))) S hI (mD hDis) hS 10 rfl (by omega) (by decide) (ms_10 (sc := (sc.1, sc.2.1, va_up sc.2.2.1 (512 * ci + k) (ffV pr w op n z ci k sc), sc.2.2.2.1, sc.2.2.2.2.1, sc.2.2.2.2.2))) dX8_findFrom_194 (fun H locs hI hS => ?_)
                exact rw_v S hr hlk (sc.1, sc.2.1, va_up sc.2.2.1 (512 * ci + k) (ffV pr w op n z ci k sc), va_up sc.2.2.2.1 (512 * ci + k) (ffW n z ci k sc), sc.2.2.2.2.1, sc.2.2.2.2.2) rfl rfl hI hS dX8_findFrom_195
            · skip
              refine lv_sipush (v := nI 512) S.1 S.2.1 dX8_findFrom_83 (by decide) ?_
              refine lv_iload_n S.1 S.2.1 dX8_findFrom_86 rfl (lv_at hl 1 rfl) ?_
              refine lv_iconst (v := nI 1) S.1 S.2.1 dX8_findFrom_87 (by decide) ?_
              refine lv_iadd S.1 S.2.1 dX8_findFrom_88 ?_
              refine ly_top (z := nI (ci + 1)) (nI_add _ _) ?_
              refine lv_imul S.1 S.2.1 dX8_findFrom_89 ?_
              refine ly_top (z := nI (512 * (ci + 1))) (pk_mul _ _) ?_
              refine lv_iload S.1 S.2.1 dX8_findFrom_90 (lv_at hl 8 rfl) ?_
              refine lv_iadd S.1 S.2.1 dX8_findFrom_92 ?_
              refine ly_top (z := nI ((512 * (ci + 1)) + q)) (nI_add _ _) ?_
              refine lv_istore (lv' := [(10, .int (nI ((512 * (ci + 1)) + q))), (0, .ref (a 0)), (1, .int (nI ci)), (2, .int (nI k)), (3, .int (nI z)), (4, .int (nI (512 * ci + k))), (5, .int (nI (lsG sc.2.1 sc.2.2.1 (512 * (ci + 1)) (arG (sc.2.1 (512 * ci + k)) z) (if ci = n - 1 then 0 else 1000000000) q))), (6, .long (wyG sc.2.1 sc.2.2.2.1 (512 * (ci + 1)) (arG (sc.2.1 (512 * ci + k)) z) (if ci = n - 1 then 1 else 0) q)), (8, .int (nI (arG (sc.2.1 (512 * ci + k)) z))), (9, .int (nI q))]) S.1 S.2.1 dX8_findFrom_93 hl (by decide) rfl (fun ls hl => ?_)
              refine lv_aload_n S.1 S.2.1 dX8_findFrom_95 rfl (lv_at hl 1 rfl) ?_
              refine g8 S hI 0 rfl 10 (by decide) tw_617 rfl dX8_findFrom_96 ?_
              refine lv_iload S.1 S.2.1 dX8_findFrom_99 (lv_at hl 0 rfl) ?_
              have o3 := q2 ((512 * (ci + 1)) + q)
              have o4 := q3 ((512 * (ci + 1)) + q)
              refine ly_iald (v := (nI (sc.2.1 ((512 * (ci + 1)) + q)))) S hI 8 rfl (by omega) (by decide) rfl dX8_findFrom_101 ?_
              refine lv_iload S.1 S.2.1 dX8_findFrom_102 (lv_at hl 8 rfl) ?_
              refine lv_iand S.1 S.2.1 dX8_findFrom_104 ?_
              refine ly_top (z := nI ((sc.2.1 ((512 * (ci + 1)) + q)) &&& (arG (sc.2.1 (512 * ci + k)) z))) (nI_and (by omega) (by omega)) ?_
              refine ly_ifne (tgt := 146) S (nI_z2 (Nat.lt_of_le_of_lt Nat.and_le_left (by omega))) (nI_z1 (Nat.lt_of_le_of_lt Nat.and_le_left (by omega))) dX8_findFrom_105 (by decide) (fun h8 => ?_) (fun h8 => ?_)
              · skip
                rw [show nI (lsG sc.2.1 sc.2.2.1 (512 * (ci + 1)) (arG (sc.2.1 (512 * ci + k)) z) (if ci = n - 1 then 0 else 1000000000) q) = nI (lsG sc.2.1 sc.2.2.1 (512 * (ci + 1)) (arG (sc.2.1 (512 * ci + k)) z) (if ci = n - 1 then 0 else 1000000000) (q + 1)) from congrArg nI (lsG_3 h8)] at hl
                rw [show wyG sc.2.1 sc.2.2.2.1 (512 * (ci + 1)) (arG (sc.2.1 (512 * ci + k)) z) (if ci = n - 1 then 1 else 0) q = wyG sc.2.1 sc.2.2.2.1 (512 * (ci + 1)) (arG (sc.2.1 (512 * ci + k)) z) (if ci = n - 1 then 1 else 0) (q + 1) from wyG_3 h8] at hl
                refine lv_iinc (v := nI (q + 1)) (lv' := [(9, .int (nI (q + 1))), (10, .int (nI ((512 * (ci + 1)) + q))), (0, .ref (a 0)), (1, .int (nI ci)), (2, .int (nI k)), (3, .int (nI z)), (4, .int (nI (512 * ci + k))), (5, .int (nI (lsG sc.2.1 sc.2.2.1 (512 * (ci + 1)) (arG (sc.2.1 (512 * ci + k)) z) (if ci = n - 1 then 0 else 1000000000) (q + 1)))), (6, .long (wyG sc.2.1 sc.2.2.2.1 (512 * (ci + 1)) (arG (sc.2.1 (512 * ci + k)) z) (if ci = n - 1 then 1 else 0) (q + 1))), (8, .int (nI (arG (sc.2.1 (512 * ci + k)) z)))]) S.1 S.2.1 dX8_findFrom_146 hl (k := 9) rfl (nJ_in _ _) (by decide) rfl (fun ls hl => ?_)
                refine lv_goto (tgt := 60) S.1 S.2.1 dX8_findFrom_149 (by decide) ?_
                exact ih60 (q + 1) (by omega) (by omega) _ (lv_sub hl [2, 3, 4, 5, 6, 7, 8, 9, 0] rfl)
              · skip
                refine lv_aload_n S.1 S.2.1 dX8_findFrom_108 rfl (lv_at hl 1 rfl) ?_
                refine g8 S hI 0 rfl 11 (by decide) tw_618 rfl dX8_findFrom_109 ?_
                refine lv_iload S.1 S.2.1 dX8_findFrom_112 (lv_at hl 0 rfl) ?_
                refine ly_iald (v := (nI (sc.2.2.1 ((512 * (ci + 1)) + q)))) S hI 9 rfl (by omega) (by decide) rfl dX8_findFrom_114 ?_
                refine lv_iload S.1 S.2.1 dX8_findFrom_115 (lv_at hl 6 rfl) ?_
                refine ly_cmge (tgt := 130) S (nI_le1 (by omega) (by omega)) (nI_le2 (by omega) (by omega)) dX8_findFrom_117 (by decide) (fun h9 => ?_) (fun h9 => ?_)
                · skip
                  refine lv_iload S.1 S.2.1 dX8_findFrom_130 (lv_at hl 6 rfl) ?_
                  refine ly_top (z := (nI (lsG sc.2.1 sc.2.2.1 (512 * (ci + 1)) (arG (sc.2.1 (512 * ci + k)) z) (if ci = n - 1 then 0 else 1000000000) (q + 1)))) (congrArg nI (lsG_2 h8 h9)) ?_
                  refine lv_istore (lv' := [(5, .int (nI (lsG sc.2.1 sc.2.2.1 (512 * (ci + 1)) (arG (sc.2.1 (512 * ci + k)) z) (if ci = n - 1 then 0 else 1000000000) (q + 1)))), (10, .int (nI ((512 * (ci + 1)) + q))), (0, .ref (a 0)), (1, .int (nI ci)), (2, .int (nI k)), (3, .int (nI z)), (4, .int (nI (512 * ci + k))), (6, .long (wyG sc.2.1 sc.2.2.2.1 (512 * (ci + 1)) (arG (sc.2.1 (512 * ci + k)) z) (if ci = n - 1 then 1 else 0) q)), (8, .int (nI (arG (sc.2.1 (512 * ci + k)) z))), (9, .int (nI q))]) S.1 S.2.1 dX8_findFrom_132 hl (by decide) rfl (fun ls hl => ?_)
                  refine lv_lload S.1 S.2.1 dX8_findFrom_134 (lv_at hl 7 rfl) ?_
                  refine lv_aload_n S.1 S.2.1 dX8_findFrom_136 rfl (lv_at hl 2 rfl) ?_
                  refine g8 S hI 0 rfl 12 (by decide) tw_619 rfl dX8_findFrom_137 ?_
                  refine lv_iload S.1 S.2.1 dX8_findFrom_140 (lv_at hl 1 rfl) ?_
                  refine ly_lald (v := (sc.2.2.2.1 ((512 * (ci + 1)) + q))) S hI 10 rfl (by omega) (by decide) rfl dX8_findFrom_142 ?_
                  refine lv_ladd S.1 S.2.1 dX8_findFrom_143 ?_
                  refine ly_topl (z := (wyG sc.2.1 sc.2.2.2.1 (512 * (ci + 1)) (arG (sc.2.1 (512 * ci + k)) z) (if ci = n - 1 then 1 else 0) (q + 1))) (wyG_1 h8) ?_
                  refine lv_lstore (lv' := [(6, .long (wyG sc.2.1 sc.2.2.2.1 (512 * (ci + 1)) (arG (sc.2.1 (512 * ci + k)) z) (if ci = n - 1 then 1 else 0) (q + 1))), (5, .int (nI (lsG sc.2.1 sc.2.2.1 (512 * (ci + 1)) (arG (sc.2.1 (512 * ci + k)) z) (if ci = n - 1 then 0 else 1000000000) (q + 1)))), (10, .int (nI ((512 * (ci + 1)) + q))), (0, .ref (a 0)), (1, .int (nI ci)), (2, .int (nI k)), (3, .int (nI z)), (4, .int (nI (512 * ci + k))), (8, .int (nI (arG (sc.2.1 (512 * ci + k)) z))), (9, .int (nI q))]) S.1 S.2.1 dX8_findFrom_144 hl (by decide) rfl (fun ls hl => ?_)
                  refine lv_iinc (v := nI (q + 1)) (lv' := [(9, .int (nI (q + 1))), (6, .long (wyG sc.2.1 sc.2.2.2.1 (512 * (ci + 1)) (arG (sc.2.1 (512 * ci + k)) z) (if ci = n - 1 then 1 else 0) (q + 1))), (5, .int (nI (lsG sc.2.1 sc.2.2.1 (512 * (ci + 1)) (arG (sc.2.1 (512 * ci + k)) z) (if ci = n - 1 then 0 else 1000000000) (q + 1)))), (10, .int (nI ((512 * (ci + 1)) + q))), (0, .ref (a 0)), (1, .int (nI ci)), (2, .int (nI k)), (3, .int (nI z)), (4, .int (nI (512 * ci + k))), (8, .int (nI (arG (sc.2.1 (512 * ci + k)) z)))]) S.1 S.2.1 dX8_findFrom_146 hl (k := 9) rfl (nJ_in _ _) (by decide) rfl (fun ls hl => ?_)
                  refine lv_goto (tgt := 60) S.1 S.2.1 dX8_findFrom_149 (by decide) ?_
                  exact ih60 (q + 1) (by omega) (by omega) _ (lv_sub hl [4, 5, 6, 7, 8, 2, 1, 9, 0] rfl)
                · skip
                  refine lv_aload_n S.1 S.2.1 dX8_findFrom_120 rfl (lv_at hl 1 rfl) ?_
                  refine g8 S hI 0 rfl 11 (by decide) tw_618 rfl dX8_findFrom_121 ?_
                  refine lv_iload S.1 S.2.1 dX8_findFrom_124 (lv_at hl 0 rfl) ?_
                  refine ly_iald (v := (nI (sc.2.2.1 ((512 * (ci + 1)) + q)))) S hI 9 rfl (by omega) (by decide) rfl dX8_findFrom_126 ?_
                  refine lv_goto (tgt := 132) S.1 S.2.1 dX8_findFrom_127 (by decide) ?_
                  refine ly_top (z := (nI (lsG sc.2.1 sc.2.2.1 (512 * (ci + 1)) (arG (sc.2.1 (512 * ci + k)) z) (if ci = n - 1 then 0 else 1000000000) (q + 1)))) (congrArg nI (lsG_1 h8 h9)) ?_
                  refine lv_istore (lv' := [(5, .int (nI (lsG sc.2.1 sc.2.2.1 (512 * (ci + 1)) (arG (sc.2.1 (512 * ci + k)) z) (if ci = n - 1 then 0 else 1000000000) (q + 1)))), (10, .int (nI ((512 * (ci + 1)) + q))), (0, .ref (a 0)), (1, .int (nI ci)), (2, .int (nI k)), (3, .int (nI z)), (4, .int (nI (512 * ci + k))), (6, .long (wyG sc.2.1 sc.2.2.2.1 (512 * (ci + 1)) (arG (sc.2.1 (512 * ci + k)) z) (if ci = n - 1 then 1 else 0) q)), (8, .int (nI (arG (sc.2.1 (512 * ci + k)) z))), (9, .int (nI q))]) S.1 S.2.1 dX8_findFrom_132 hl (by decide) rfl (fun ls hl => ?_)
                  refine lv_lload S.1 S.2.1 dX8_findFrom_134 (lv_at hl 7 rfl) ?_
                  refine lv_aload_n S.1 S.2.1 dX8_findFrom_136 rfl (lv_at hl 2 rfl) ?_
                  refine g8 S hI 0 rfl 12 (by decide) tw_619 rfl dX8_findFrom_137 ?_
                  refine lv_iload S.1 S.2.1 dX8_findFrom_140 (lv_at hl 1 rfl) ?_
                  refine ly_lald (v := (sc.2.2.2.1 ((512 * (ci + 1)) + q))) S hI 10 rfl (by omega) (by decide) rfl dX8_findFrom_142 ?_
                  refine lv_ladd S.1 S.2.1 dX8_findFrom_143 ?_
                  refine ly_topl (z := (wyG sc.2.1 sc.2.2.2.1 (512 * (ci + 1)) (arG (sc.2.1 (512 * ci + k)) z) (if ci = n - 1 then 1 else 0) (q + 1))) (wyG_1 h8) ?_
                  refine lv_lstore (lv' := [(6, .long (wyG sc.2.1 sc.2.2.2.1 (512 * (ci + 1)) (arG (sc.2.1 (512 * ci + k)) z) (if ci = n - 1 then 1 else 0) (q + 1))), (5, .int (nI (lsG sc.2.1 sc.2.2.1 (512 * (ci + 1)) (arG (sc.2.1 (512 * ci + k)) z) (if ci = n - 1 then 0 else 1000000000) (q + 1)))), (10, .int (nI ((512 * (ci + 1)) + q))), (0, .ref (a 0)), (1, .int (nI ci)), (2, .int (nI k)), (3, .int (nI z)), (4, .int (nI (512 * ci + k))), (8, .int (nI (arG (sc.2.1 (512 * ci + k)) z))), (9, .int (nI q))]) S.1 S.2.1 dX8_findFrom_144 hl (by decide) rfl (fun ls hl => ?_)
                  refine lv_iinc (v := nI (q + 1)) (lv' := [(9, .int (nI (q + 1))), (6, .long (wyG sc.2.1 sc.2.2.2.1 (512 * (ci + 1)) (arG (sc.2.1 (512 * ci + k)) z) (if ci = n - 1 then 1 else 0) (q + 1))), (5, .int (nI (lsG sc.2.1 sc.2.2.1 (512 * (ci + 1)) (arG (sc.2.1 (512 * ci + k)) z) (if ci = n - 1 then 0 else 1000000000) (q + 1)))), (10, .int (nI ((512 * (ci + 1)) + q))), (0, .ref (a 0)), (1, .int (nI ci)), (2, .int (nI k)), (3, .int (nI z)), (4, .int (nI (512 * ci + k))), (8, .int (nI (arG (sc.2.1 (512 * ci + k)) z)))]) S.1 S.2.1 dX8_findFrom_146 hl (k := 9) rfl (nJ_in _ _) (by decide) rfl (fun ls hl => ?_)
                  refine lv_goto (tgt := 60) S.1 S.2.1 dX8_findFrom_149 (by decide) ?_
                  exact ih60 (q + 1) (by omega) (by omega) _ (lv_sub hl [4, 5, 6, 7, 8, 2, 1, 9, 0] rfl)
      exact L60 _ 0 (Nat.zero_le _) (Nat.lt_succ_self _) _ (lv_sub hl [2, 3, 4, 5, 6, 7, 8, 1, 0] rfl)
    refine lv_iload_n S.1 S.2.1 dX8_findFrom_27 rfl (lv_at hl 1 rfl) ?_
    refine lv_aload_n S.1 S.2.1 dX8_findFrom_28 rfl (lv_at hl 0 rfl) ?_
    refine g8 S hI 0 rfl 1 (by decide) tw_608 rfl dX8_findFrom_29 ?_
    refine lv_iconst (v := nI 1) S.1 S.2.1 dX8_findFrom_32 (by decide) ?_
    refine lv_isub S.1 S.2.1 dX8_findFrom_33 ?_
    refine ly_top (z := nI (n - 1)) (pk_sub (by omega)) ?_
    refine ly_cmne (tgt := 41) S (nI_e2 (by omega) (by omega)) (nI_e1 (by omega) (by omega)) dX8_findFrom_34 (by decide) (fun h10 => ?_) (fun h10 => ?_)
    · skip
      refine lv_lconst (v := 0) S.1 S.2.1 dX8_findFrom_41 (by decide) ?_
      refine ly_topl (z := (if ci = n - 1 then 1 else 0)) (by rw [if_neg h10]) ?_
      refine lv_lstore (lv' := [(6, .long (if ci = n - 1 then 1 else 0)), (0, .ref (a 0)), (1, .int (nI ci)), (2, .int (nI k)), (3, .int (nI z)), (4, .int (nI (512 * ci + k))), (5, .int (nI (if ci = n - 1 then 0 else 1000000000)))]) S.1 S.2.1 dX8_findFrom_42 hl (by decide) rfl (fun ls hl => ?_)
      exact J44  _ (lv_sub hl [1, 2, 3, 4, 5, 6, 0] rfl)
    · skip
      refine lv_lconst (v := 1) S.1 S.2.1 dX8_findFrom_37 (by decide) ?_
      refine lv_goto (tgt := 42) S.1 S.2.1 dX8_findFrom_38 (by decide) ?_
      refine ly_topl (z := (if ci = n - 1 then 1 else 0)) (by rw [if_pos h10]) ?_
      refine lv_lstore (lv' := [(6, .long (if ci = n - 1 then 1 else 0)), (0, .ref (a 0)), (1, .int (nI ci)), (2, .int (nI k)), (3, .int (nI z)), (4, .int (nI (512 * ci + k))), (5, .int (nI (if ci = n - 1 then 0 else 1000000000)))]) S.1 S.2.1 dX8_findFrom_42 hl (by decide) rfl (fun ls hl => ?_)
      exact J44  _ (lv_sub hl [1, 2, 3, 4, 5, 6, 0] rfl)
  refine lv_iload_n S.1 S.2.1 dX8_findFrom_9 rfl (lv_at hl 2 rfl) ?_
  refine lv_aload_n S.1 S.2.1 dX8_findFrom_10 rfl (lv_at hl 1 rfl) ?_
  refine g8 S hI 0 rfl 1 (by decide) tw_608 rfl dX8_findFrom_11 ?_
  refine lv_iconst (v := nI 1) S.1 S.2.1 dX8_findFrom_14 (by decide) ?_
  refine lv_isub S.1 S.2.1 dX8_findFrom_15 ?_
  refine ly_top (z := nI (n - 1)) (pk_sub (by omega)) ?_
  refine ly_cmne (tgt := 23) S (nI_e2 (by omega) (by omega)) (nI_e1 (by omega) (by omega)) dX8_findFrom_16 (by decide) (fun h11 => ?_) (fun h11 => ?_)
  · skip
    refine lv_ldc S.1 S.2.1 S.2.2.2.1 (S.2.2.2.2 _ tw_764) dX8_findFrom_23 ?_
    refine ly_top (z := nI 1000000000) (by decide) ?_
    refine ly_top (z := (nI (if ci = n - 1 then 0 else 1000000000))) (by rw [if_neg h11]) ?_
    refine lv_istore (lv' := [(5, .int (nI (if ci = n - 1 then 0 else 1000000000))), (4, .int (nI (512 * ci + k))), (0, .ref (a 0)), (1, .int (nI ci)), (2, .int (nI k)), (3, .int (nI z))]) S.1 S.2.1 dX8_findFrom_25 hl (by decide) rfl (fun ls hl => ?_)
    exact J27  _ (lv_sub hl [2, 3, 4, 5, 1, 0] rfl)
  · skip
    refine lv_iconst (v := nI 0) S.1 S.2.1 dX8_findFrom_19 (by decide) ?_
    refine lv_goto (tgt := 25) S.1 S.2.1 dX8_findFrom_20 (by decide) ?_
    refine ly_top (z := (nI (if ci = n - 1 then 0 else 1000000000))) (by rw [if_pos h11]) ?_
    refine lv_istore (lv' := [(5, .int (nI (if ci = n - 1 then 0 else 1000000000))), (4, .int (nI (512 * ci + k))), (0, .ref (a 0)), (1, .int (nI ci)), (2, .int (nI k)), (3, .int (nI z))]) S.1 S.2.1 dX8_findFrom_25 hl (by decide) rfl (fun ls hl => ?_)
    exact J27  _ (lv_sub hl [2, 3, 4, 5, 1, 0] rfl)
theorem kX8_findFrom {p : Program} {l : Launch} {e : Env} {R : Room} {s : State} {m : MethodId} {args : Array Value} {below : List Frame} {meth : Method} {c : Code} {H H0 : Heap} {locs : List Loc} {cells slots : Nat} {Q : State → Prop} {cc : ByteArray} {nL index pc : Nat} {own : String} {ls : Array Slot} {rest : List Value} {D : va_G} {K : Nat → ClassId} {a : Nat → Nat} {w n lap : Nat} {op mu ba la en : Nat → Nat} {pr : Nat → Option Nat} {sc : MSc} {ci : Nat} {k : Nat} {z : Nat} (S : CallFix p m c cc nL s args lw_tb own) (hI : PI D K (mW K a w n lap op mu ba la en pr sc) s H) (hS : va_S (adA a 13) H0 H locs) (hDis : Dis a 13) (hG : GOK w n lap op mu ba la en pr) (hci : ci < n) (hk : k < 512) (hz1 : 1 ≤ z) (hz2 : z ≤ 3) (hsc : SOK sc) (hlink : Cond.methodLink own index yX8_findFrom ∈ lw_tb) (hR : RO 4 R cells slots) (hsz : ls.size = nL) (hW : (rest.map fun v => v.category).sum ≤ 8) (hdg : decode cc pc = .ok (.invokevirtual index, 3)) (kk : ∀ (u : MSc) (H1 : Heap) (locs1 : List Loc), (u = (sc.1, sc.2.1, va_up sc.2.2.1 (512 * ci + k) (ffV pr w op n z ci k sc), va_up sc.2.2.2.1 (512 * ci + k) (ffW n z ci k sc), sc.2.2.2.2.1, sc.2.2.2.2.2)) → PI D K (mW K a w n lap op mu ba la en pr u) s H1 → va_S (adA a 13) H0 H1 locs1 → H.size ≤ H1.size → (∀ q : Nat, q < H.size → ¬ (adA a 13) q → H1[q]? = H[q]?) → W p l e R s m args below meth c H1 locs1 cells slots Q (F0 m (pc + 3) ls (rest))) : W p l e R s m args below meth c H locs cells slots Q (F0 m pc ls (.int (nI z) :: .int (nI k) :: .int (nI ci) :: .ref (a 0) :: rest)) :=
  kVX (As := [.int (nI ci), .int (nI k), .int (nI z)]) (b := a 0) S (mX8_findFrom l hDis hG hci hk hz1 hz2 hsc) hlink tw_762 tw_30 tw_50 tw_763 (by show _ ∧ _ ∧ _ = some 3; decide +kernel) (by decide) hR blP (piU hI) (va_recv hI.2 hI.1 (ci := 8) (q0 := 0) rfl rfl) hS (fun _ h => h) hsz rfl hW hdg kk
