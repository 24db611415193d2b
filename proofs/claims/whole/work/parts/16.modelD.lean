set_option maxHeartbeats 4000000 in
set_option maxRecDepth 100000 in
theorem mX8_findAll (l : Launch) {D : va_G} {K : Nat → ClassId} {a : Nat → Nat} {w n lap : Nat} {op mu ba la en : Nat → Nat} {pr : Nat → Option Nat} {sc : MSc} {z : Nat} (hDis : Dis a 13) (hG : GOK w n lap op mu ba la en pr) (hz1 : 1 ≤ z) (hz2 : z ≤ 3) (hsc : SOK sc) : Met l yX8_findAll (TWd yX8_findAll cX8_findAll 4 none) (rmk 6) (va_Pc [.ref (a 0), .int (nI z)] (fun U => PI D K (mW K a w n lap op mu ba la en pr sc) U U.heap)) (QX D K (fun u : MSc => none) (fun u => (mW K a w n lap op mu ba la en pr u)) (fun u => AllOk w op mu ba en pr n z 0 u ∧ SOK u ∧ u.2.2.2.2 = sc.2.2.2.2) (adA a 13)) 0 0 (adA a 13) := by
  refine mt_of (by decide +kernel) (Nat.le_of_ble_eq_true rfl) ?_
  intro p e s m below meth c S hr hlk hI ls hl
  have S : CallFix p m c cX8_findAll 4 s ([.ref (a 0), .int (nI z)] : List Value).toArray lw_tb RX8 := S
  have hl : lv_has ls 4 [(0, .ref (a 0)), (1, .int (nI z))] := hl
  have hS : va_S (adA a 13) s.heap s.heap [] := va_S.rf
  obtain ⟨gw1, gw2, gn, gl1, gl2, gop, gmu, gba, gla, gen, gpr, gop2, gmu2, gba2, gla2, gme, gbe, gle, gee⟩ := id hG
  refine lv_aload_n S.1 S.2.1 dX8_findAll_0 rfl (lv_at hl 0 rfl) ?_
  refine g8 S hI 0 rfl 1 (by decide) tw_608 rfl dX8_findAll_1 ?_
  refine lv_iconst (v := nI 1) S.1 S.2.1 dX8_findAll_4 (by decide) ?_
  refine lv_isub S.1 S.2.1 dX8_findAll_5 ?_
  refine lv_istore_n (lv' := [(2, .int ((nI n) - (nI 1))), (0, .ref (a 0)), (1, .int (nI z))]) S.1 S.2.1 dX8_findAll_6 rfl hl (by decide) rfl (fun ls hl => ?_)
  have L7 : ∀ (f7 : Nat) (k : Nat) (t : MSc) (H : Heap) (locs : List Loc), (k ≤ n) → (AllOk w op mu ba en pr n z k t) → (SOK t) → (t.2.2.2.2 = sc.2.2.2.2) → (PI D K (mW K a w n lap op mu ba la en pr t) s H) → (va_S (adA a 13) s.heap H locs) → k < f7 → ∀ (ls : Array Slot), lv_has ls 4 [(0, .ref (a 0)), (1, .int (nI z)), (2, .int ((nI k) - (nI 1)))] → W p l e (rmk 6) s m ([.ref (a 0), .int (nI z)] : List Value).toArray below meth c H locs 0 0 (MQ below (QX D K (fun u : MSc => none) (fun u => (mW K a w n lap op mu ba la en pr u)) (fun u => AllOk w op mu ba en pr n z 0 u ∧ SOK u ∧ u.2.2.2.2 = sc.2.2.2.2) (adA a 13)) ([.ref (a 0), .int (nI z)] : List Value).toArray s 0 0 (adA a 13)) (F0 m 7 ls []) := by
    intro f7
    induction f7 with
    | zero =>
      intro k t H locs i1 i2 i3 i4 hI hS hm
      exact absurd hm (Nat.not_lt_zero _)
    | succ f7 ih7 =>
      intro k t H locs i1 i2 i3 i4 hI hS hm7 ls hl
      refine lv_iload_n S.1 S.2.1 dX8_findAll_7 rfl (lv_at hl 2 rfl) ?_
      refine ly_iflt (tgt := 47) S (fun q => q) (fun q => q) dX8_findAll_8 (by decide) (fun h1 => ?_) (fun h1 => ?_)
      · skip
        have k0 := sub1_lt (by omega) h1
        exact rw_v S hr hlk t rfl (by rw [k0] at i2; exact ⟨i2, i3, i4⟩) hI hS dX8_findAll_47
      · skip
        have k1 := sub1_ge (by omega) h1
        rw [show (nI k) - (nI 1) = nI (k - 1) from pk_sub k1] at hl
        refine lv_aload_n S.1 S.2.1 dX8_findAll_11 rfl (lv_at hl 0 rfl) ?_
        refine lv_iload_n S.1 S.2.1 dX8_findAll_12 rfl (lv_at hl 2 rfl) ?_
        refine kX8_findRows S hI hS hDis hG (by omega) i3 tw_712 (rok (by decide)) hl.1 (Nat.le_of_ble_eq_true rfl) dX8_findAll_13 (fun u2 H locs hu2 hI hS _ _ => ?_)
        have a1 := AO_rows gw2 (c := k - 1) (by rw [show k - 1 + 1 = k by omega]; exact i2) hu2
        refine lv_iconst (v := nI 0) S.1 S.2.1 dX8_findAll_16 (by decide) ?_
        refine lv_istore_n (lv' := [(3, .int (nI 0)), (0, .ref (a 0)), (1, .int (nI z)), (2, .int (nI (k - 1)))]) S.1 S.2.1 dX8_findAll_17 rfl hl (by decide) rfl (fun ls hl => ?_)
        have L18 : ∀ (f18 : Nat) (q : Nat) (v : MSc) (H : Heap) (locs : List Loc), (q ≤ (rws w op mu ba en pr (k - 1)).length) → (AllOk w op mu ba en pr n z (k - 1 + 1) v) → (RowsOk w op mu ba en pr (k - 1) v) → (DoneTo w op mu ba en pr n z (k - 1) v q) → (SOK v) → (v.2.2.2.2 = sc.2.2.2.2) → (PI D K (mW K a w n lap op mu ba la en pr v) s H) → (va_S (adA a 13) s.heap H locs) → (rws w op mu ba en pr (k - 1)).length - q < f18 → ∀ (ls : Array Slot), lv_has ls 4 [(0, .ref (a 0)), (1, .int (nI z)), (2, .int (nI (k - 1))), (3, .int (nI q))] → W p l e (rmk 6) s m ([.ref (a 0), .int (nI z)] : List Value).toArray below meth c H locs 0 0 (MQ below (QX D K (fun u : MSc => none) (fun u => (mW K a w n lap op mu ba la en pr u)) (fun u => AllOk w op mu ba en pr n z 0 u ∧ SOK u ∧ u.2.2.2.2 = sc.2.2.2.2) (adA a 13)) ([.ref (a 0), .int (nI z)] : List Value).toArray s 0 0 (adA a 13)) (F0 m 18 ls []) := by
          intro f18
          induction f18 with
          | zero =>
            intro q v H locs j1 j2 j3 j4 j5 j6 hI hS hm
            exact absurd hm (Nat.not_lt_zero _)
          | succ f18 ih18 =>
            intro q v H locs j1 j2 j3 j4 j5 j6 hI hS hm18 ls hl
            have e1 := j3.1
            have e2 := j5.1 (k - 1)
            refine lv_iload_n S.1 S.2.1 dX8_findAll_18 rfl (lv_at hl 3 rfl) ?_
            refine lv_aload_n S.1 S.2.1 dX8_findAll_19 rfl (lv_at hl 0 rfl) ?_
            refine g8 S hI 0 rfl 9 (by decide) tw_616 rfl dX8_findAll_20 ?_
            refine lv_iload_n S.1 S.2.1 dX8_findAll_23 rfl (lv_at hl 2 rfl) ?_
            refine ly_iald (v := (nI (v.1 (k - 1)))) S hI 7 rfl (by omega) (by decide) rfl dX8_findAll_24 ?_
            refine ly_cmge (tgt := 41) S (nI_le1 (by omega) (by omega)) (nI_le2 (by omega) (by omega)) dX8_findAll_25 (by decide) (fun h3 => ?_) (fun h3 => ?_)
            · skip
              rw [show nI (k - 1) = (nI k) - (nI 1) from (pk_sub k1).symm] at hl
              refine lv_iinc (v := (nI (k - 1)) - (nI 1)) (lv' := [(2, .int ((nI (k - 1)) - (nI 1))), (0, .ref (a 0)), (1, .int (nI z)), (3, .int (nI q))]) S.1 S.2.1 dX8_findAll_41 hl (k := 2) rfl (im1 k1) (by decide) rfl (fun ls hl => ?_)
              refine lv_goto (tgt := 7) S.1 S.2.1 dX8_findAll_44 (by decide) ?_
              exact ih7 (k - 1) v _ _ (by omega) (fun d h1 h2 => if e : d = k - 1 then (by subst e; exact ⟨j3, by have eq : q = (rws w op mu ba en pr (k - 1)).length := (by omega); rw [← eq]; exact j4⟩) else j2 d (by omega) h2) j5 j6 hI hS (by omega) _ (lv_sub hl [1, 2, 0] rfl)
            · skip
              refine lv_aload_n S.1 S.2.1 dX8_findAll_28 rfl (lv_at hl 0 rfl) ?_
              refine lv_iload_n S.1 S.2.1 dX8_findAll_29 rfl (lv_at hl 2 rfl) ?_
              refine lv_iload_n S.1 S.2.1 dX8_findAll_30 rfl (lv_at hl 3 rfl) ?_
              refine lv_iload_n S.1 S.2.1 dX8_findAll_31 rfl (lv_at hl 1 rfl) ?_
              refine kX8_findFrom S hI hS hDis hG (by omega) (by omega) (by omega) (by omega) j5 tw_760 (rok (by decide)) hl.1 (Nat.le_of_ble_eq_true rfl) dX8_findAll_32 (fun u4 H locs hu4 hI hS _ _ => ?_)
              have b1 := AO_from gw2 (by omega) (by omega) j2 j3 j4 hu4
              refine lv_iinc (v := nI (q + 1)) (lv' := [(3, .int (nI (q + 1))), (0, .ref (a 0)), (1, .int (nI z)), (2, .int (nI (k - 1)))]) S.1 S.2.1 dX8_findAll_35 hl (k := 3) rfl (nJ_in _ _) (by decide) rfl (fun ls hl => ?_)
              refine lv_goto (tgt := 18) S.1 S.2.1 dX8_findAll_38 (by decide) ?_
              exact ih18 (q + 1) u4 _ _ (by omega) b1.1 b1.2.1 b1.2.2 (by rw [hu4]; exact SOK_from gw2 gpr gn (by omega) (by omega) j5) (by rw [hu4]; exact j6) hI hS (by omega) _ (lv_sub hl [1, 2, 3, 0] rfl)
        exact L18 _ 0 u2 _ _ (Nat.zero_le _) a1.1 a1.2.1 a1.2.2 hu2.2.2.2.2.2 (by rw [hu2.2.2.2.2.1]; exact i4) hI hS (Nat.lt_succ_self _) _ (lv_sub hl [1, 2, 3, 0] rfl)
  exact L7 _ n sc _ _ (Nat.le_refl _) (fun d h1 h2 => absurd h1 (by omega)) hsc rfl hI hS (Nat.lt_succ_self _) _ (lv_sub hl [1, 2, 0] rfl)
theorem kX8_findAll {p : Program} {l : Launch} {e : Env} {R : Room} {s : State} {m : MethodId} {args : Array Value} {below : List Frame} {meth : Method} {c : Code} {H H0 : Heap} {locs : List Loc} {cells slots : Nat} {Q : State → Prop} {cc : ByteArray} {nL index pc : Nat} {own : String} {ls : Array Slot} {rest : List Value} {D : va_G} {K : Nat → ClassId} {a : Nat → Nat} {w n lap : Nat} {op mu ba la en : Nat → Nat} {pr : Nat → Option Nat} {sc : MSc} {z : Nat} (S : CallFix p m c cc nL s args lw_tb own) (hI : PI D K (mW K a w n lap op mu ba la en pr sc) s H) (hS : va_S (adA a 13) H0 H locs) (hDis : Dis a 13) (hG : GOK w n lap op mu ba la en pr) (hz1 : 1 ≤ z) (hz2 : z ≤ 3) (hsc : SOK sc) (hlink : Cond.methodLink own index yX8_findAll ∈ lw_tb) (hR : RO 6 R cells slots) (hsz : ls.size = nL) (hW : (rest.map fun v => v.category).sum ≤ 8) (hdg : decode cc pc = .ok (.invokevirtual index, 3)) (kk : ∀ (u : MSc) (H1 : Heap) (locs1 : List Loc), (AllOk w op mu ba en pr n z 0 u ∧ SOK u ∧ u.2.2.2.2 = sc.2.2.2.2) → PI D K (mW K a w n lap op mu ba la en pr u) s H1 → va_S (adA a 13) H0 H1 locs1 → H.size ≤ H1.size → (∀ q : Nat, q < H.size → ¬ (adA a 13) q → H1[q]? = H[q]?) → W p l e R s m args below meth c H1 locs1 cells slots Q (F0 m (pc + 3) ls (rest))) : W p l e R s m args below meth c H locs cells slots Q (F0 m pc ls (.int (nI z) :: .ref (a 0) :: rest)) :=
  kVX (As := [.int (nI z)]) (b := a 0) S (mX8_findAll l hDis hG hz1 hz2 hsc) hlink tw_758 tw_29 tw_50 tw_759 (by show _ ∧ _ ∧ _ = some 1; decide +kernel) (by decide) hR blP (piU hI) (va_recv hI.2 hI.1 (ci := 8) (q0 := 0) rfl rfl) hS (fun _ h => h) hsz rfl hW hdg kk

set_option maxHeartbeats 4000000 in
set_option maxRecDepth 100000 in
theorem mX8_walls (l : Launch) {D : va_G} {K : Nat → ClassId} {a : Nat → Nat} {w n lap : Nat} {op mu ba la en : Nat → Nat} {pr : Nat → Option Nat} {sc : MSc} (hDis : Dis a 13) (hG : GOK w n lap op mu ba la en pr) (hsc : SOK sc) : Met l yX8_walls (TWd yX8_walls cX8_walls 4 (some .long)) (rmk 7) (va_Pc [.ref (a 0)] (fun U => PI D K (mW K a w n lap op mu ba la en pr sc) U U.heap)) (QX D K (fun u : MSc => some (.long (wlS w op mu ba en pr n lap))) (fun u => (mW K a w n lap op mu ba la en pr u)) (fun u => SOK u) (adA a 13)) 0 0 (adA a 13) := by
  refine mt_of (by decide +kernel) (Nat.le_of_ble_eq_true rfl) ?_
  intro p e s m below meth c S hr hlk hI ls hl
  have S : CallFix p m c cX8_walls 4 s ([.ref (a 0)] : List Value).toArray lw_tb RX8 := S
  have hl : lv_has ls 4 [(0, .ref (a 0))] := hl
  have hS : va_S (adA a 13) s.heap s.heap [] := va_S.rf
  obtain ⟨gw1, gw2, gn, gl1, gl2, gop, gmu, gba, gla, gen, gpr, gop2, gmu2, gba2, gla2, gme, gbe, gle, gee⟩ := id hG
  refine lv_aload_n S.1 S.2.1 dX8_walls_0 rfl (lv_at hl 0 rfl) ?_
  refine lv_aload_n S.1 S.2.1 dX8_walls_1 rfl (lv_at hl 0 rfl) ?_
  refine g8 S hI 0 rfl 8 (by decide) tw_615 rfl dX8_walls_2 ?_
  refine kX8_findAll S hI hS hDis hG (by omega) (by omega) hsc tw_756 (rok (by decide)) hl.1 (Nat.le_of_ble_eq_true rfl) dX8_walls_5 (fun u1 H locs hu1 hI hS _ _ => ?_)
  obtain ⟨v, ev⟩ : ∃ v, v = u1 := ⟨_, rfl⟩
  rw [← ev] at hI hu1
  obtain ⟨a1, a2, a3⟩ := hu1
  refine lv_aload_n S.1 S.2.1 dX8_walls_8 rfl (lv_at hl 0 rfl) ?_
  have J21 : ∀ (ls : Array Slot), lv_has ls 4 [(0, .ref (a 0)), (1, .long (if n = 0 then 1 else 0))] → W p l e (rmk 7) s m ([.ref (a 0)] : List Value).toArray below meth c H locs 0 0 (MQ below (QX D K (fun u : MSc => some (.long (wlS w op mu ba en pr n lap))) (fun u => (mW K a w n lap op mu ba la en pr u)) (fun u => SOK u) (adA a 13)) ([.ref (a 0)] : List Value).toArray s 0 0 (adA a 13)) (F0 m 21 ls []) := by
    intro  ls hl
    refine lv_iconst (v := nI 0) S.1 S.2.1 dX8_walls_21 (by decide) ?_
    refine lv_istore_n (lv' := [(3, .int (nI 0)), (0, .ref (a 0)), (1, .long (if n = 0 then 1 else 0))]) S.1 S.2.1 dX8_walls_22 rfl hl (by decide) rfl (fun ls hl => ?_)
    have L23 : ∀ (f23 : Nat) (q : Nat), (q ≤ (if n = 0 then 0 else v.1 0)) → (if n = 0 then 0 else v.1 0) - q < f23 → ∀ (ls : Array Slot), lv_has ls 4 [(0, .ref (a 0)), (1, .long (smG v.2.2.2.1 (if n = 0 then 1 else 0) q)), (3, .int (nI q))] → W p l e (rmk 7) s m ([.ref (a 0)] : List Value).toArray below meth c H locs 0 0 (MQ below (QX D K (fun u : MSc => some (.long (wlS w op mu ba en pr n lap))) (fun u => (mW K a w n lap op mu ba la en pr u)) (fun u => SOK u) (adA a 13)) ([.ref (a 0)] : List Value).toArray s 0 0 (adA a 13)) (F0 m 23 ls []) := by
      intro f23
      induction f23 with
      | zero =>
        intro q i1 hm
        exact absurd hm (Nat.not_lt_zero _)
      | succ f23 ih23 =>
        intro q i1 hm23 ls hl
        refine lv_aload_n S.1 S.2.1 dX8_walls_23 rfl (lv_at hl 0 rfl) ?_
        refine g8 S hI 0 rfl 1 (by decide) tw_608 rfl dX8_walls_24 ?_
        refine ly_ifle (tgt := 55) S (fun q => nI_p2 (by omega) (Int32.not_lt.mpr q)) (fun q => nI_p1 (by omega) (Int32.not_le.mp q)) dX8_walls_27 (by decide) (fun h2 => ?_) (fun h2 => ?_)
        · skip
          have e9 : q = (if n = 0 then 0 else v.1 0) := by rw [if_pos h2] at i1 ⊢; omega
          refine lv_lload_n S.1 S.2.1 dX8_walls_55 rfl (lv_at hl 1 rfl) ?_
          exact rw_l S hr hlk v (by rw [wl_e a1 e9]) a2 hI hS dX8_walls_56
        · skip
          have e8 : (if n = 0 then 0 else v.1 0) = v.1 0 := if_neg (by omega)
          have e7 := a2.1 0
          refine lv_iload_n S.1 S.2.1 dX8_walls_30 rfl (lv_at hl 2 rfl) ?_
          refine lv_aload_n S.1 S.2.1 dX8_walls_31 rfl (lv_at hl 0 rfl) ?_
          refine g8 S hI 0 rfl 9 (by decide) tw_616 rfl dX8_walls_32 ?_
          refine lv_iconst (v := nI 0) S.1 S.2.1 dX8_walls_35 (by decide) ?_
          refine ly_iald (v := (nI (v.1 0))) S hI 7 rfl (by omega) (by decide) rfl dX8_walls_36 ?_
          refine ly_cmge (tgt := 55) S (nI_le1 (by omega) (by omega)) (nI_le2 (by omega) (by omega)) dX8_walls_37 (by decide) (fun h3 => ?_) (fun h3 => ?_)
          · skip
            have e9 : q = (if n = 0 then 0 else v.1 0) := by omega
            refine lv_lload_n S.1 S.2.1 dX8_walls_55 rfl (lv_at hl 1 rfl) ?_
            exact rw_l S hr hlk v (by rw [wl_e a1 e9]) a2 hI hS dX8_walls_56
          · skip
            refine lv_lload_n S.1 S.2.1 dX8_walls_40 rfl (lv_at hl 1 rfl) ?_
            refine lv_aload_n S.1 S.2.1 dX8_walls_41 rfl (lv_at hl 0 rfl) ?_
            refine g8 S hI 0 rfl 12 (by decide) tw_619 rfl dX8_walls_42 ?_
            refine lv_iload_n S.1 S.2.1 dX8_walls_45 rfl (lv_at hl 2 rfl) ?_
            refine ly_lald (v := (v.2.2.2.1 q)) S hI 10 rfl (by omega) (by decide) rfl dX8_walls_46 ?_
            refine lv_ladd S.1 S.2.1 dX8_walls_47 ?_
            refine ly_topl (z := (smG v.2.2.2.1 (if n = 0 then 1 else 0) (q + 1))) rfl ?_
            refine lv_lstore_n (lv' := [(1, .long (smG v.2.2.2.1 (if n = 0 then 1 else 0) (q + 1))), (0, .ref (a 0)), (3, .int (nI q))]) S.1 S.2.1 dX8_walls_48 rfl hl (by decide) rfl (fun ls hl => ?_)
            refine lv_iinc (v := nI (q + 1)) (lv' := [(3, .int (nI (q + 1))), (1, .long (smG v.2.2.2.1 (if n = 0 then 1 else 0) (q + 1))), (0, .ref (a 0))]) S.1 S.2.1 dX8_walls_49 hl (k := 2) rfl (nJ_in _ _) (by decide) rfl (fun ls hl => ?_)
            refine lv_goto (tgt := 23) S.1 S.2.1 dX8_walls_52 (by decide) ?_
            exact ih23 (q + 1) (by omega) (by omega) _ (lv_sub hl [2, 1, 0] rfl)
    exact L23 _ 0 (Nat.zero_le _) (Nat.lt_succ_self _) _ (lv_sub hl [1, 2, 0] rfl)
  refine g8 S hI 0 rfl 1 (by decide) tw_608 rfl dX8_walls_9 ?_
  refine ly_ifne (tgt := 19) S (nI_z2 (by omega)) (nI_z1 (by omega)) dX8_walls_12 (by decide) (fun h4 => ?_) (fun h4 => ?_)
  · skip
    refine lv_lconst (v := 0) S.1 S.2.1 dX8_walls_19 (by decide) ?_
    refine ly_topl (z := (if n = 0 then 1 else 0)) (by rw [if_neg h4]) ?_
    refine lv_lstore_n (lv' := [(1, .long (if n = 0 then 1 else 0)), (0, .ref (a 0))]) S.1 S.2.1 dX8_walls_20 rfl hl (by decide) rfl (fun ls hl => ?_)
    exact J21  _ (lv_sub hl [1, 0] rfl)
  · skip
    refine lv_lconst (v := 1) S.1 S.2.1 dX8_walls_15 (by decide) ?_
    refine lv_goto (tgt := 20) S.1 S.2.1 dX8_walls_16 (by decide) ?_
    refine ly_topl (z := (if n = 0 then 1 else 0)) (by rw [if_pos h4]) ?_
    refine lv_lstore_n (lv' := [(1, .long (if n = 0 then 1 else 0)), (0, .ref (a 0))]) S.1 S.2.1 dX8_walls_20 rfl hl (by decide) rfl (fun ls hl => ?_)
    exact J21  _ (lv_sub hl [1, 0] rfl)
theorem kX8_walls {p : Program} {l : Launch} {e : Env} {R : Room} {s : State} {m : MethodId} {args : Array Value} {below : List Frame} {meth : Method} {c : Code} {H H0 : Heap} {locs : List Loc} {cells slots : Nat} {Q : State → Prop} {cc : ByteArray} {nL index pc : Nat} {own : String} {ls : Array Slot} {rest : List Value} {D : va_G} {K : Nat → ClassId} {a : Nat → Nat} {w n lap : Nat} {op mu ba la en : Nat → Nat} {pr : Nat → Option Nat} {sc : MSc} (S : CallFix p m c cc nL s args lw_tb own) (hI : PI D K (mW K a w n lap op mu ba la en pr sc) s H) (hS : va_S (adA a 13) H0 H locs) (hDis : Dis a 13) (hG : GOK w n lap op mu ba la en pr) (hsc : SOK sc) (hlink : Cond.methodLink own index yX8_walls ∈ lw_tb) (hR : RO 7 R cells slots) (hsz : ls.size = nL) (hW : (rest.map fun v => v.category).sum ≤ 8) (hdg : decode cc pc = .ok (.invokevirtual index, 3)) (kk : ∀ (u : MSc) (H1 : Heap) (locs1 : List Loc), (SOK u) → PI D K (mW K a w n lap op mu ba la en pr u) s H1 → va_S (adA a 13) H0 H1 locs1 → H.size ≤ H1.size → (∀ q : Nat, q < H.size → ¬ (adA a 13) q → H1[q]? = H[q]?) → W p l e R s m args below meth c H1 locs1 cells slots Q (F0 m (pc + 3) ls ((.long (wlS w op mu ba en pr n lap)) :: rest))) : W p l e R s m args below meth c H locs cells slots Q (F0 m pc ls (.ref (a 0) :: rest)) :=
  kVX (As := []) (b := a 0) S (mX8_walls l hDis hG hsc) hlink tw_753 tw_754 tw_50 tw_755 (by show _ ∧ _ ∧ _ = some 0; decide +kernel) (by decide) hR blP (piU hI) (va_recv hI.2 hI.1 (ci := 8) (q0 := 0) rfl rfl) hS (fun _ h => h) hsz rfl hW hdg kk

set_option maxHeartbeats 4000000 in
set_option maxRecDepth 100000 in
theorem mX8_leastCost (l : Launch) {D : va_G} {K : Nat → ClassId} {a : Nat → Nat} {w n lap : Nat} {op mu ba la en : Nat → Nat} {pr : Nat → Option Nat} {sc : MSc} {z : Nat} (hDis : Dis a 13) (hG : GOK w n lap op mu ba la en pr) (hz1 : 1 ≤ z) (hz2 : z ≤ 3) (hsc : SOK sc) : Met l yX8_leastCost (TWd yX8_leastCost cX8_leastCost 4 (some .int)) (rmk 7) (va_Pc [.ref (a 0), .int (nI z)] (fun U => PI D K (mW K a w n lap op mu ba la en pr sc) U U.heap)) (QX D K (fun u : MSc => some (.int (bsI w op mu ba en pr n z))) (fun u => (mW K a w n lap op mu ba la en pr u)) (fun u => AllOk w op mu ba en pr n z 0 u ∧ SOK u ∧ u.2.2.2.2 = sc.2.2.2.2) (adA a 13)) 0 0 (adA a 13) := by
  refine mt_of (by decide +kernel) (Nat.le_of_ble_eq_true rfl) ?_
  intro p e s m below meth c S hr hlk hI ls hl
  have S : CallFix p m c cX8_leastCost 4 s ([.ref (a 0), .int (nI z)] : List Value).toArray lw_tb RX8 := S
  have hl : lv_has ls 4 [(0, .ref (a 0)), (1, .int (nI z))] := hl
  have hS : va_S (adA a 13) s.heap s.heap [] := va_S.rf
  obtain ⟨gw1, gw2, gn, gl1, gl2, gop, gmu, gba, gla, gen, gpr, gop2, gmu2, gba2, gla2, gme, gbe, gle, gee⟩ := id hG
  refine lv_aload_n S.1 S.2.1 dX8_leastCost_0 rfl (lv_at hl 0 rfl) ?_
  refine lv_iload_n S.1 S.2.1 dX8_leastCost_1 rfl (lv_at hl 1 rfl) ?_
  refine kX8_findAll S hI hS hDis hG (by omega) (by omega) hsc tw_756 (rok (by decide)) hl.1 (Nat.le_of_ble_eq_true rfl) dX8_leastCost_2 (fun u1 H locs hu1 hI hS _ _ => ?_)
  obtain ⟨v, ev⟩ : ∃ v, v = u1 := ⟨_, rfl⟩
  rw [← ev] at hI hu1
  obtain ⟨a1, a2, a3⟩ := hu1
  have q3 : ∀ i, v.2.2.1 i ≤ 1000000000 := fun i => by have := a2.2.2.1 i; omega
  have il : (if n = 0 then 0 else 1000000000) ≤ 1000000000 := by split <;> omega
  refine lv_aload_n S.1 S.2.1 dX8_leastCost_5 rfl (lv_at hl 0 rfl) ?_
  have J19 : ∀ (ls : Array Slot), lv_has ls 4 [(0, .ref (a 0)), (1, .int (nI z)), (2, .int (nI (if n = 0 then 0 else 1000000000)))] → W p l e (rmk 7) s m ([.ref (a 0), .int (nI z)] : List Value).toArray below meth c H locs 0 0 (MQ below (QX D K (fun u : MSc => some (.int (bsI w op mu ba en pr n z))) (fun u => (mW K a w n lap op mu ba la en pr u)) (fun u => AllOk w op mu ba en pr n z 0 u ∧ SOK u ∧ u.2.2.2.2 = sc.2.2.2.2) (adA a 13)) ([.ref (a 0), .int (nI z)] : List Value).toArray s 0 0 (adA a 13)) (F0 m 19 ls []) := by
    intro  ls hl
    refine lv_iconst (v := nI 0) S.1 S.2.1 dX8_leastCost_19 (by decide) ?_
    refine lv_istore_n (lv' := [(3, .int (nI 0)), (0, .ref (a 0)), (1, .int (nI z)), (2, .int (nI (if n = 0 then 0 else 1000000000)))]) S.1 S.2.1 dX8_leastCost_20 rfl hl (by decide) rfl (fun ls hl => ?_)
    have L21 : ∀ (f21 : Nat) (q : Nat), (q ≤ (if n = 0 then 0 else v.1 0)) → (if n = 0 then 0 else v.1 0) - q < f21 → ∀ (ls : Array Slot), lv_has ls 4 [(0, .ref (a 0)), (1, .int (nI z)), (2, .int (nI (mnG v.2.2.1 (if n = 0 then 0 else 1000000000) q))), (3, .int (nI q))] → W p l e (rmk 7) s m ([.ref (a 0), .int (nI z)] : List Value).toArray below meth c H locs 0 0 (MQ below (QX D K (fun u : MSc => some (.int (bsI w op mu ba en pr n z))) (fun u => (mW K a w n lap op mu ba la en pr u)) (fun u => AllOk w op mu ba en pr n z 0 u ∧ SOK u ∧ u.2.2.2.2 = sc.2.2.2.2) (adA a 13)) ([.ref (a 0), .int (nI z)] : List Value).toArray s 0 0 (adA a 13)) (F0 m 21 ls []) := by
      intro f21
      induction f21 with
      | zero =>
        intro q i1 hm
        exact absurd hm (Nat.not_lt_zero _)
      | succ f21 ih21 =>
        intro q i1 hm21 ls hl
        have b9 := mnG_le (f := v.2.2.1) il q
        have b8 := q3 q
        refine lv_aload_n S.1 S.2.1 dX8_leastCost_21 rfl (lv_at hl 0 rfl) ?_
        refine g8 S hI 0 rfl 1 (by decide) tw_608 rfl dX8_leastCost_22 ?_
        refine ly_ifle (tgt := 65) S (fun q => nI_p2 (by omega) (Int32.not_lt.mpr q)) (fun q => nI_p1 (by omega) (Int32.not_le.mp q)) dX8_leastCost_25 (by decide) (fun h2 => ?_) (fun h2 => ?_)
        · skip
          have e9 : q = (if n = 0 then 0 else v.1 0) := by rw [if_pos h2] at i1 ⊢; omega
          refine lv_iload_n S.1 S.2.1 dX8_leastCost_65 rfl (lv_at hl 2 rfl) ?_
          refine lv_ldc S.1 S.2.1 S.2.2.2.1 (S.2.2.2.2 _ tw_764) dX8_leastCost_66 ?_
          refine ly_top (z := nI 1000000000) (by decide) ?_
          refine ly_cmne (tgt := 76) S (nI_e2 (by omega) (by omega)) (nI_e1 (by omega) (by omega)) dX8_leastCost_68 (by decide) (fun h3 => ?_) (fun h3 => ?_)
          · skip
            refine lv_iload_n S.1 S.2.1 dX8_leastCost_76 rfl (lv_at hl 2 rfl) ?_
            exact rw_i S hr hlk v (by have e6 := bs_e a1 e9; unfold bsI; rw [← e6, if_neg h3]) ⟨a1, a2, a3⟩ hI hS dX8_leastCost_77
          · skip
            refine lv_bipush (v := (-9)) S.1 S.2.1 dX8_leastCost_71 (by decide) ?_
            refine lv_goto (tgt := 77) S.1 S.2.1 dX8_leastCost_73 (by decide) ?_
            exact rw_i S hr hlk v (by have e6 := bs_e a1 e9; unfold bsI; rw [← e6, if_pos h3]) ⟨a1, a2, a3⟩ hI hS dX8_leastCost_77
        · skip
          have e8 : (if n = 0 then 0 else v.1 0) = v.1 0 := if_neg (by omega)
          have e7 := a2.1 0
          refine lv_iload_n S.1 S.2.1 dX8_leastCost_28 rfl (lv_at hl 3 rfl) ?_
          refine lv_aload_n S.1 S.2.1 dX8_leastCost_29 rfl (lv_at hl 0 rfl) ?_
          refine g8 S hI 0 rfl 9 (by decide) tw_616 rfl dX8_leastCost_30 ?_
          refine lv_iconst (v := nI 0) S.1 S.2.1 dX8_leastCost_33 (by decide) ?_
          refine ly_iald (v := (nI (v.1 0))) S hI 7 rfl (by omega) (by decide) rfl dX8_leastCost_34 ?_
          refine ly_cmge (tgt := 65) S (nI_le1 (by omega) (by omega)) (nI_le2 (by omega) (by omega)) dX8_leastCost_35 (by decide) (fun h4 => ?_) (fun h4 => ?_)
          · skip
            have e9 : q = (if n = 0 then 0 else v.1 0) := by omega
            refine lv_iload_n S.1 S.2.1 dX8_leastCost_65 rfl (lv_at hl 2 rfl) ?_
            refine lv_ldc S.1 S.2.1 S.2.2.2.1 (S.2.2.2.2 _ tw_764) dX8_leastCost_66 ?_
            refine ly_top (z := nI 1000000000) (by decide) ?_
            refine ly_cmne (tgt := 76) S (nI_e2 (by omega) (by omega)) (nI_e1 (by omega) (by omega)) dX8_leastCost_68 (by decide) (fun h5 => ?_) (fun h5 => ?_)
            · skip
              refine lv_iload_n S.1 S.2.1 dX8_leastCost_76 rfl (lv_at hl 2 rfl) ?_
              exact rw_i S hr hlk v (by have e6 := bs_e a1 e9; unfold bsI; rw [← e6, if_neg h5]) ⟨a1, a2, a3⟩ hI hS dX8_leastCost_77
            · skip
              refine lv_bipush (v := (-9)) S.1 S.2.1 dX8_leastCost_71 (by decide) ?_
              refine lv_goto (tgt := 77) S.1 S.2.1 dX8_leastCost_73 (by decide) ?_
              exact rw_i S hr hlk v (by have e6 := bs_e a1 e9; unfold bsI; rw [← e6, if_pos h5]) ⟨a1, a2, a3⟩ hI hS dX8_leastCost_77
          · skip
            refine lv_aload_n S.1 S.2.1 dX8_leastCost_38 rfl (lv_at hl 0 rfl) ?_
            refine g8 S hI 0 rfl 11 (by decide) tw_618 rfl dX8_leastCost_39 ?_
            refine lv_iload_n S.1 S.2.1 dX8_leastCost_42 rfl (lv_at hl 3 rfl) ?_
            refine ly_iald (v := (nI (v.2.2.1 q))) S hI 9 rfl (by omega) (by decide) rfl dX8_leastCost_43 ?_
            refine lv_iload_n S.1 S.2.1 dX8_leastCost_44 rfl (lv_at hl 2 rfl) ?_
            refine ly_cmge (tgt := 57) S (nI_le1 (by omega) (by omega)) (nI_le2 (by omega) (by omega)) dX8_leastCost_45 (by decide) (fun h6 => ?_) (fun h6 => ?_)
            · skip
              refine lv_iload_n S.1 S.2.1 dX8_leastCost_57 rfl (lv_at hl 2 rfl) ?_
              refine ly_top (z := (nI (mnG v.2.2.1 (if n = 0 then 0 else 1000000000) (q + 1)))) (congrArg nI (mnG_2 h6)) ?_
              refine lv_istore_n (lv' := [(2, .int (nI (mnG v.2.2.1 (if n = 0 then 0 else 1000000000) (q + 1)))), (0, .ref (a 0)), (1, .int (nI z)), (3, .int (nI q))]) S.1 S.2.1 dX8_leastCost_58 rfl hl (by decide) rfl (fun ls hl => ?_)
              refine lv_iinc (v := nI (q + 1)) (lv' := [(3, .int (nI (q + 1))), (2, .int (nI (mnG v.2.2.1 (if n = 0 then 0 else 1000000000) (q + 1)))), (0, .ref (a 0)), (1, .int (nI z))]) S.1 S.2.1 dX8_leastCost_59 hl (k := 3) rfl (nJ_in _ _) (by decide) rfl (fun ls hl => ?_)
              refine lv_goto (tgt := 21) S.1 S.2.1 dX8_leastCost_62 (by decide) ?_
              exact ih21 (q + 1) (by omega) (by omega) _ (lv_sub hl [2, 3, 1, 0] rfl)
            · skip
              refine lv_aload_n S.1 S.2.1 dX8_leastCost_48 rfl (lv_at hl 0 rfl) ?_
              refine g8 S hI 0 rfl 11 (by decide) tw_618 rfl dX8_leastCost_49 ?_
              refine lv_iload_n S.1 S.2.1 dX8_leastCost_52 rfl (lv_at hl 3 rfl) ?_
              refine ly_iald (v := (nI (v.2.2.1 q))) S hI 9 rfl (by omega) (by decide) rfl dX8_leastCost_53 ?_
              refine lv_goto (tgt := 58) S.1 S.2.1 dX8_leastCost_54 (by decide) ?_
              refine ly_top (z := (nI (mnG v.2.2.1 (if n = 0 then 0 else 1000000000) (q + 1)))) (congrArg nI (mnG_1 h6)) ?_
              refine lv_istore_n (lv' := [(2, .int (nI (mnG v.2.2.1 (if n = 0 then 0 else 1000000000) (q + 1)))), (0, .ref (a 0)), (1, .int (nI z)), (3, .int (nI q))]) S.1 S.2.1 dX8_leastCost_58 rfl hl (by decide) rfl (fun ls hl => ?_)
              refine lv_iinc (v := nI (q + 1)) (lv' := [(3, .int (nI (q + 1))), (2, .int (nI (mnG v.2.2.1 (if n = 0 then 0 else 1000000000) (q + 1)))), (0, .ref (a 0)), (1, .int (nI z))]) S.1 S.2.1 dX8_leastCost_59 hl (k := 3) rfl (nJ_in _ _) (by decide) rfl (fun ls hl => ?_)
              refine lv_goto (tgt := 21) S.1 S.2.1 dX8_leastCost_62 (by decide) ?_
              exact ih21 (q + 1) (by omega) (by omega) _ (lv_sub hl [2, 3, 1, 0] rfl)
    exact L21 _ 0 (Nat.zero_le _) (Nat.lt_succ_self _) _ (lv_sub hl [1, 2, 3, 0] rfl)
  refine g8 S hI 0 rfl 1 (by decide) tw_608 rfl dX8_leastCost_6 ?_
  refine ly_ifne (tgt := 16) S (nI_z2 (by omega)) (nI_z1 (by omega)) dX8_leastCost_9 (by decide) (fun h7 => ?_) (fun h7 => ?_)
  · skip
    refine lv_ldc S.1 S.2.1 S.2.2.2.1 (S.2.2.2.2 _ tw_764) dX8_leastCost_16 ?_
    refine ly_top (z := nI 1000000000) (by decide) ?_
    refine ly_top (z := (nI (if n = 0 then 0 else 1000000000))) (by rw [if_neg h7]) ?_
    refine lv_istore_n (lv' := [(2, .int (nI (if n = 0 then 0 else 1000000000))), (0, .ref (a 0)), (1, .int (nI z))]) S.1 S.2.1 dX8_leastCost_18 rfl hl (by decide) rfl (fun ls hl => ?_)
    exact J19  _ (lv_sub hl [1, 2, 0] rfl)
  · skip
    refine lv_iconst (v := nI 0) S.1 S.2.1 dX8_leastCost_12 (by decide) ?_
    refine lv_goto (tgt := 18) S.1 S.2.1 dX8_leastCost_13 (by decide) ?_
    refine ly_top (z := (nI (if n = 0 then 0 else 1000000000))) (by rw [if_pos h7]) ?_
    refine lv_istore_n (lv' := [(2, .int (nI (if n = 0 then 0 else 1000000000))), (0, .ref (a 0)), (1, .int (nI z))]) S.1 S.2.1 dX8_leastCost_18 rfl hl (by decide) rfl (fun ls hl => ?_)
    exact J19  _ (lv_sub hl [1, 2, 0] rfl)
theorem kX8_leastCost {p : Program} {l : Launch} {e : Env} {R : Room} {s : State} {m : MethodId} {args : Array Value} {below : List Frame} {meth : Method} {c : Code} {H H0 : Heap} {locs : List Loc} {cells slots : Nat} {Q : State → Prop} {cc : ByteArray} {nL index pc : Nat} {own : String} {ls : Array Slot} {rest : List Value} {D : va_G} {K : Nat → ClassId} {a : Nat → Nat} {w n lap : Nat} {op mu ba la en : Nat → Nat} {pr : Nat → Option Nat} {sc : MSc} {z : Nat} (S : CallFix p m c cc nL s args lw_tb own) (hI : PI D K (mW K a w n lap op mu ba la en pr sc) s H) (hS : va_S (adA a 13) H0 H locs) (hDis : Dis a 13) (hG : GOK w n lap op mu ba la en pr) (hz1 : 1 ≤ z) (hz2 : z ≤ 3) (hsc : SOK sc) (hlink : Cond.methodLink own index yX8_leastCost ∈ lw_tb) (hR : RO 7 R cells slots) (hsz : ls.size = nL) (hW : (rest.map fun v => v.category).sum ≤ 8) (hdg : decode cc pc = .ok (.invokevirtual index, 3)) (kk : ∀ (u : MSc) (H1 : Heap) (locs1 : List Loc), (AllOk w op mu ba en pr n z 0 u ∧ SOK u ∧ u.2.2.2.2 = sc.2.2.2.2) → PI D K (mW K a w n lap op mu ba la en pr u) s H1 → va_S (adA a 13) H0 H1 locs1 → H.size ≤ H1.size → (∀ q : Nat, q < H.size → ¬ (adA a 13) q → H1[q]? = H[q]?) → W p l e R s m args below meth c H1 locs1 cells slots Q (F0 m (pc + 3) ls ((.int (bsI w op mu ba en pr n z)) :: rest))) : W p l e R s m args below meth c H locs cells slots Q (F0 m pc ls (.int (nI z) :: .ref (a 0) :: rest)) :=
  kVX (As := [.int (nI z)]) (b := a 0) S (mX8_leastCost l hDis hG hz1 hz2 hsc) hlink tw_778 tw_32 tw_50 tw_779 (by show _ ∧ _ ∧ _ = some 1; decide +kernel) (by decide) hR blP (piU hI) (va_recv hI.2 hI.1 (ci := 8) (q0 := 0) rfl rfl) hS (fun _ h => h) hsz rfl hW hdg kk

set_option maxHeartbeats 4000000 in
set_option maxRecDepth 100000 in
theorem mX8_best (l : Launch) {D : va_G} {K : Nat → ClassId} {a : Nat → Nat} {w n lap : Nat} {op mu ba la en : Nat → Nat} {pr : Nat → Option Nat} {sc : MSc} (hDis : Dis a 13) (hG : GOK w n lap op mu ba la en pr) (hsc : SOK sc) : Met l yX8_best (TWd yX8_best cX8_best 1 (some .int)) (rmk 8) (va_Pc [.ref (a 0)] (fun U => PI D K (mW K a w n lap op mu ba la en pr sc) U U.heap)) (QX D K (fun u : MSc => some (.int (bsI w op mu ba en pr n lap))) (fun u => (mW K a w n lap op mu ba la en pr u)) (fun u => SOK u) (adA a 13)) 0 0 (adA a 13) := by
  refine mt_of (by decide +kernel) (Nat.le_of_ble_eq_true rfl) ?_
  intro p e s m below meth c S hr hlk hI ls hl
  have S : CallFix p m c cX8_best 1 s ([.ref (a 0)] : List Value).toArray lw_tb RX8 := S
  have hl : lv_has ls 1 [(0, .ref (a 0))] := hl
  have hS : va_S (adA a 13) s.heap s.heap [] := va_S.rf
  obtain ⟨gw1, gw2, gn, gl1, gl2, gop, gmu, gba, gla, gen, gpr, gop2, gmu2, gba2, gla2, gme, gbe, gle, gee⟩ := id hG
  refine lv_aload_n S.1 S.2.1 dX8_best_0 rfl (lv_at hl 0 rfl) ?_
  refine lv_aload_n S.1 S.2.1 dX8_best_1 rfl (lv_at hl 0 rfl) ?_
  refine g8 S hI 0 rfl 8 (by decide) tw_615 rfl dX8_best_2 ?_
  refine kX8_leastCost S hI hS hDis hG (by omega) (by omega) hsc tw_776 (rok (by decide)) hl.1 (Nat.le_of_ble_eq_true rfl) dX8_best_5 (fun u1 H locs hu1 hI hS _ _ => ?_)
  exact rw_i S hr hlk u1 rfl hu1.2.1 hI hS dX8_best_8
theorem kX8_best {p : Program} {l : Launch} {e : Env} {R : Room} {s : State} {m : MethodId} {args : Array Value} {below : List Frame} {meth : Method} {c : Code} {H H0 : Heap} {locs : List Loc} {cells slots : Nat} {Q : State → Prop} {cc : ByteArray} {nL index pc : Nat} {own : String} {ls : Array Slot} {rest : List Value} {D : va_G} {K : Nat → ClassId} {a : Nat → Nat} {w n lap : Nat} {op mu ba la en : Nat → Nat} {pr : Nat → Option Nat} {sc : MSc} (S : CallFix p m c cc nL s args lw_tb own) (hI : PI D K (mW K a w n lap op mu ba la en pr sc) s H) (hS : va_S (adA a 13) H0 H locs) (hDis : Dis a 13) (hG : GOK w n lap op mu ba la en pr) (hsc : SOK sc) (hlink : Cond.methodLink own index yX8_best ∈ lw_tb) (hR : RO 8 R cells slots) (hsz : ls.size = nL) (hW : (rest.map fun v => v.category).sum ≤ 8) (hdg : decode cc pc = .ok (.invokevirtual index, 3)) (kk : ∀ (u : MSc) (H1 : Heap) (locs1 : List Loc), (SOK u) → PI D K (mW K a w n lap op mu ba la en pr u) s H1 → va_S (adA a 13) H0 H1 locs1 → H.size ≤ H1.size → (∀ q : Nat, q < H.size → ¬ (adA a 13) q → H1[q]? = H[q]?) → W p l e R s m args below meth c H1 locs1 cells slots Q (F0 m (pc + 3) ls ((.int (bsI w op mu ba en pr n lap)) :: rest))) : W p l e R s m args below meth c H locs cells slots Q (F0 m pc ls (.ref (a 0) :: rest)) :=
  kVX (As := []) (b := a 0) S (mX8_best l hDis hG hsc) hlink tw_773 tw_774 tw_50 tw_775 (by show _ ∧ _ ∧ _ = some 0; decide +kernel) (by decide) hR blP (piU hI) (va_recv hI.2 hI.1 (ci := 8) (q0 := 0) rfl rfl) hS (fun _ h => h) hsz rfl hW hdg kk

set_option maxHeartbeats 4000000 in
set_option maxRecDepth 100000 in
theorem mX8_byLap_a (l : Launch) {D : va_G} {K : Nat → ClassId} {a : Nat → Nat} {w n lap : Nat} {op mu ba la en : Nat → Nat} {pr : Nat → Option Nat} {sc : MSc} {v : Int32} (hG : GOK w n lap op mu ba la en pr) (hv : wiI v (nI 1) (nI 3) = false) : Met l yX8_byLap (TWd yX8_byLap cX8_byLap 2 (some .int)) (rmk 8) (va_Pc [.ref (a 0), .int v] (fun U => PI D K (mW K a w n lap op mu ba la en pr sc) U U.heap)) (QcRead ((-2))) 0 0 (fun _ => False) := by
  refine mt_of (by decide +kernel) (Nat.le_of_ble_eq_true rfl) ?_
  intro p e s m below meth c S hr hlk hI ls hl
  have S : CallFix p m c cX8_byLap 2 s ([.ref (a 0), .int v] : List Value).toArray lw_tb RX8 := S
  have hl : lv_has ls 2 [(0, .ref (a 0)), (1, .int v)] := hl
  obtain ⟨gw1, gw2, gn, gl1, gl2, gop, gmu, gba, gla, gen, gpr, gop2, gmu2, gba2, gla2, gme, gbe, gle, gee⟩ := id hG
  refine lv_iload_n S.1 S.2.1 dX8_byLap_0 rfl (lv_at hl 1 rfl) ?_
  refine lv_iconst (v := nI 1) S.1 S.2.1 dX8_byLap_1 (by decide) ?_
  refine lv_iconst (v := nI 3) S.1 S.2.1 dX8_byLap_2 (by decide) ?_
  refine kX8_within S  tw_658 (rok (by decide)) hl.1 (Nat.le_of_ble_eq_true rfl) dX8_byLap_3 ?_
  refine ly_ifeq (tgt := 17) S bI_e1 bI_e2 dX8_byLap_6 (by decide) (fun h1 => ?_) (fun h1 => ?_)
  · skip
    refine lv_bipush (v := (-2)) S.1 S.2.1 dX8_byLap_17 (by decide) ?_
    exact rt_i S hr hlk rfl dX8_byLap_19
  · skip
    exact absurd h1 (by rw [hv]; decide)
theorem kX8_byLap_a {p : Program} {l : Launch} {e : Env} {R : Room} {s : State} {m : MethodId} {args : Array Value} {below : List Frame} {meth : Method} {c : Code} {H : Heap} {locs : List Loc} {cells slots : Nat} {Q : State → Prop} {cc : ByteArray} {nL index pc : Nat} {own : String} {ls : Array Slot} {rest : List Value} {D : va_G} {K : Nat → ClassId} {a : Nat → Nat} {w n lap : Nat} {op mu ba la en : Nat → Nat} {pr : Nat → Option Nat} {sc : MSc} {v : Int32} (S : CallFix p m c cc nL s args lw_tb own) (hI : PI D K (mW K a w n lap op mu ba la en pr sc) s H) (hG : GOK w n lap op mu ba la en pr) (hv : wiI v (nI 1) (nI 3) = false) (hlink : Cond.methodLink own index yX8_byLap ∈ lw_tb) (hR : RO 8 R cells slots) (hsz : ls.size = nL) (hW : (rest.map fun v => v.category).sum ≤ 8) (hdg : decode cc pc = .ok (.invokevirtual index, 3)) (kk : W p l e R s m args below meth c H locs cells slots Q (F0 m (pc + 3) ls (.int ((-2)) :: rest))) : W p l e R s m args below meth c H locs cells slots Q (F0 m pc ls (.int v :: .ref (a 0) :: rest)) :=
  kV (As := [.int v]) (b := a 0) S (mX8_byLap_a l hG hv) hlink tw_805 tw_806 tw_50 tw_807 (by show _ ∧ _ ∧ _ = some 1; decide +kernel) (by decide) hR blP (piU hI) (va_recv hI.2 hI.1 (ci := 8) (q0 := 0) rfl rfl) hsz rfl hW hdg kk

set_option maxHeartbeats 4000000 in
set_option maxRecDepth 100000 in
theorem mX8_byLap_b (l : Launch) {D : va_G} {K : Nat → ClassId} {a : Nat → Nat} {w n lap : Nat} {op mu ba la en : Nat → Nat} {pr : Nat → Option Nat} {sc : MSc} {z : Nat} (hDis : Dis a 13) (hG : GOK w n lap op mu ba la en pr) (hz1 : 1 ≤ z) (hz2 : z ≤ 3) (hsc : SOK sc) : Met l yX8_byLap (TWd yX8_byLap cX8_byLap 2 (some .int)) (rmk 8) (va_Pc [.ref (a 0), .int (nI z)] (fun U => PI D K (mW K a w n lap op mu ba la en pr sc) U U.heap)) (QX D K (fun u : MSc => some (.int (bsI w op mu ba en pr n z))) (fun u => (mW K a w n lap op mu ba la en pr u)) (fun u => SOK u) (adA a 13)) 0 0 (adA a 13) := by
  refine mt_of (by decide +kernel) (Nat.le_of_ble_eq_true rfl) ?_
  intro p e s m below meth c S hr hlk hI ls hl
  have S : CallFix p m c cX8_byLap 2 s ([.ref (a 0), .int (nI z)] : List Value).toArray lw_tb RX8 := S
  have hl : lv_has ls 2 [(0, .ref (a 0)), (1, .int (nI z))] := hl
  have hS : va_S (adA a 13) s.heap s.heap [] := va_S.rf
  obtain ⟨gw1, gw2, gn, gl1, gl2, gop, gmu, gba, gla, gen, gpr, gop2, gmu2, gba2, gla2, gme, gbe, gle, gee⟩ := id hG
  refine lv_iload_n S.1 S.2.1 dX8_byLap_0 rfl (lv_at hl 1 rfl) ?_
  refine lv_iconst (v := nI 1) S.1 S.2.1 dX8_byLap_1 (by decide) ?_
  refine lv_iconst (v := nI 3) S.1 S.2.1 dX8_byLap_2 (by decide) ?_
  refine kX8_within S  tw_658 (rok (by decide)) hl.1 (Nat.le_of_ble_eq_true rfl) dX8_byLap_3 ?_
  refine ly_ifeq (tgt := 17) S bI_e1 bI_e2 dX8_byLap_6 (by decide) (fun h1 => ?_) (fun h1 => ?_)
  · skip
    exact absurd h1 (by rw [wiN (by omega) (by omega) (by omega)]; decide)
  · skip
    refine lv_aload_n S.1 S.2.1 dX8_byLap_9 rfl (lv_at hl 0 rfl) ?_
    refine lv_iload_n S.1 S.2.1 dX8_byLap_10 rfl (lv_at hl 1 rfl) ?_
    refine kX8_leastCost S hI hS hDis hG (by omega) (by omega) hsc tw_776 (rok (by decide)) hl.1 (Nat.le_of_ble_eq_true rfl) dX8_byLap_11 (fun u2 H locs hu2 hI hS _ _ => ?_)
    refine lv_goto (tgt := 19) S.1 S.2.1 dX8_byLap_14 (by decide) ?_
    exact rw_i S hr hlk u2 rfl hu2.2.1 hI hS dX8_byLap_19
theorem kX8_byLap_b {p : Program} {l : Launch} {e : Env} {R : Room} {s : State} {m : MethodId} {args : Array Value} {below : List Frame} {meth : Method} {c : Code} {H H0 : Heap} {locs : List Loc} {cells slots : Nat} {Q : State → Prop} {cc : ByteArray} {nL index pc : Nat} {own : String} {ls : Array Slot} {rest : List Value} {D : va_G} {K : Nat → ClassId} {a : Nat → Nat} {w n lap : Nat} {op mu ba la en : Nat → Nat} {pr : Nat → Option Nat} {sc : MSc} {z : Nat} (S : CallFix p m c cc nL s args lw_tb own) (hI : PI D K (mW K a w n lap op mu ba la en pr sc) s H) (hS : va_S (adA a 13) H0 H locs) (hDis : Dis a 13) (hG : GOK w n lap op mu ba la en pr) (hz1 : 1 ≤ z) (hz2 : z ≤ 3) (hsc : SOK sc) (hlink : Cond.methodLink own index yX8_byLap ∈ lw_tb) (hR : RO 8 R cells slots) (hsz : ls.size = nL) (hW : (rest.map fun v => v.category).sum ≤ 8) (hdg : decode cc pc = .ok (.invokevirtual index, 3)) (kk : ∀ (u : MSc) (H1 : Heap) (locs1 : List Loc), (SOK u) → PI D K (mW K a w n lap op mu ba la en pr u) s H1 → va_S (adA a 13) H0 H1 locs1 → H.size ≤ H1.size → (∀ q : Nat, q < H.size → ¬ (adA a 13) q → H1[q]? = H[q]?) → W p l e R s m args below meth c H1 locs1 cells slots Q (F0 m (pc + 3) ls ((.int (bsI w op mu ba en pr n z)) :: rest))) : W p l e R s m args below meth c H locs cells slots Q (F0 m pc ls (.int (nI z) :: .ref (a 0) :: rest)) :=
  kVX (As := [.int (nI z)]) (b := a 0) S (mX8_byLap_b l hDis hG hz1 hz2 hsc) hlink tw_805 tw_806 tw_50 tw_807 (by show _ ∧ _ ∧ _ = some 1; decide +kernel) (by decide) hR blP (piU hI) (va_recv hI.2 hI.1 (ci := 8) (q0 := 0) rfl rfl) hS (fun _ h => h) hsz rfl hW hdg kk

set_option maxHeartbeats 4000000 in
set_option maxRecDepth 100000 in
theorem mX8_row_a (l : Launch) {D : va_G} {K : Nat → ClassId} {a : Nat → Nat} {w n lap : Nat} {op mu ba la en : Nat → Nat} {pr : Nat → Option Nat} {sc : MSc} {v : Int32} {z : Int32} (hG : GOK w n lap op mu ba la en pr) (hv : wiI v 0 (nI n - 1) = false) : Met l yX8_row (TWd yX8_row cX8_row 3 (some .int)) (rmk 6) (va_Pc [.ref (a 0), .int v, .int z] (fun U => PI D K (mW K a w n lap op mu ba la en pr sc) U U.heap)) (QcRead ((-1))) 0 0 (fun _ => False) := by
  refine mt_of (by decide +kernel) (Nat.le_of_ble_eq_true rfl) ?_
  intro p e s m below meth c S hr hlk hI ls hl
  have S : CallFix p m c cX8_row 3 s ([.ref (a 0), .int v, .int z] : List Value).toArray lw_tb RX8 := S
  have hl : lv_has ls 3 [(0, .ref (a 0)), (1, .int v), (2, .int z)] := hl
  obtain ⟨gw1, gw2, gn, gl1, gl2, gop, gmu, gba, gla, gen, gpr, gop2, gmu2, gba2, gla2, gme, gbe, gle, gee⟩ := id hG
  refine lv_aload_n S.1 S.2.1 dX8_row_0 rfl (lv_at hl 0 rfl) ?_
  refine lv_iload_n S.1 S.2.1 dX8_row_1 rfl (lv_at hl 1 rfl) ?_
  refine kX8_isCourse S hI hG tw_673 (rok (by decide)) hl.1 (Nat.le_of_ble_eq_true rfl) dX8_row_2 ?_
  refine ly_ifne (tgt := 10) S bI_e2 bI_e1 dX8_row_5 (by decide) (fun h1 => ?_) (fun h1 => ?_)
  · skip
    exact absurd h1 (by rw [hv]; decide)
  · skip
    refine lv_iconst (v := (-1)) S.1 S.2.1 dX8_row_8 (by decide) ?_
    exact rt_i S hr hlk rfl dX8_row_9
theorem kX8_row_a {p : Program} {l : Launch} {e : Env} {R : Room} {s : State} {m : MethodId} {args : Array Value} {below : List Frame} {meth : Method} {c : Code} {H : Heap} {locs : List Loc} {cells slots : Nat} {Q : State → Prop} {cc : ByteArray} {nL index pc : Nat} {own : String} {ls : Array Slot} {rest : List Value} {D : va_G} {K : Nat → ClassId} {a : Nat → Nat} {w n lap : Nat} {op mu ba la en : Nat → Nat} {pr : Nat → Option Nat} {sc : MSc} {v : Int32} {z : Int32} (S : CallFix p m c cc nL s args lw_tb own) (hI : PI D K (mW K a w n lap op mu ba la en pr sc) s H) (hG : GOK w n lap op mu ba la en pr) (hv : wiI v 0 (nI n - 1) = false) (hlink : Cond.methodLink own index yX8_row ∈ lw_tb) (hR : RO 6 R cells slots) (hsz : ls.size = nL) (hW : (rest.map fun v => v.category).sum ≤ 8) (hdg : decode cc pc = .ok (.invokevirtual index, 3)) (kk : W p l e R s m args below meth c H locs cells slots Q (F0 m (pc + 3) ls (.int ((-1)) :: rest))) : W p l e R s m args below meth c H locs cells slots Q (F0 m pc ls (.int z :: .int v :: .ref (a 0) :: rest)) :=
  kV (As := [.int v, .int z]) (b := a 0) S (mX8_row_a l hG hv) hlink tw_709 tw_710 tw_50 tw_711 (by show _ ∧ _ ∧ _ = some 2; decide +kernel) (by decide) hR blP (piU hI) (va_recv hI.2 hI.1 (ci := 8) (q0 := 0) rfl rfl) hsz rfl hW hdg kk

set_option maxHeartbeats 4000000 in
set_option maxRecDepth 100000 in
theorem mX8_row_b (l : Launch) {D : va_G} {K : Nat → ClassId} {a : Nat → Nat} {w n lap : Nat} {op mu ba la en : Nat → Nat} {pr : Nat → Option Nat} {sc : MSc} {ci : Nat} {z : Int32} (hG : GOK w n lap op mu ba la en pr) (hc : ci < n) (hz : wiI z (-1) (nI 511) = false) : Met l yX8_row (TWd yX8_row cX8_row 3 (some .int)) (rmk 6) (va_Pc [.ref (a 0), .int (nI ci), .int z] (fun U => PI D K (mW K a w n lap op mu ba la en pr sc) U U.heap)) (QcRead ((-2))) 0 0 (fun _ => False) := by
  refine mt_of (by decide +kernel) (Nat.le_of_ble_eq_true rfl) ?_
  intro p e s m below meth c S hr hlk hI ls hl
  have S : CallFix p m c cX8_row 3 s ([.ref (a 0), .int (nI ci), .int z] : List Value).toArray lw_tb RX8 := S
  have hl : lv_has ls 3 [(0, .ref (a 0)), (1, .int (nI ci)), (2, .int z)] := hl
  obtain ⟨gw1, gw2, gn, gl1, gl2, gop, gmu, gba, gla, gen, gpr, gop2, gmu2, gba2, gla2, gme, gbe, gle, gee⟩ := id hG
  refine lv_aload_n S.1 S.2.1 dX8_row_0 rfl (lv_at hl 0 rfl) ?_
  refine lv_iload_n S.1 S.2.1 dX8_row_1 rfl (lv_at hl 1 rfl) ?_
  refine kX8_isCourse S hI hG tw_673 (rok (by decide)) hl.1 (Nat.le_of_ble_eq_true rfl) dX8_row_2 ?_
  refine ly_ifne (tgt := 10) S bI_e2 bI_e1 dX8_row_5 (by decide) (fun h1 => ?_) (fun h1 => ?_)
  · skip
    refine lv_iload_n S.1 S.2.1 dX8_row_10 rfl (lv_at hl 2 rfl) ?_
    refine lv_iconst (v := (-1)) S.1 S.2.1 dX8_row_11 (by decide) ?_
    refine lv_sipush (v := nI 511) S.1 S.2.1 dX8_row_12 (by decide) ?_
    refine kX8_within S  tw_658 (rok (by decide)) hl.1 (Nat.le_of_ble_eq_true rfl) dX8_row_15 ?_
    refine ly_ifne (tgt := 24) S bI_e2 bI_e1 dX8_row_18 (by decide) (fun h2 => ?_) (fun h2 => ?_)
    · skip
      exact absurd h2 (by rw [hz]; decide)
    · skip
      refine lv_bipush (v := (-2)) S.1 S.2.1 dX8_row_21 (by decide) ?_
      exact rt_i S hr hlk rfl dX8_row_23
  · skip
    exact absurd h1 (by rw [wiC (by omega) (by omega)]; decide)
theorem kX8_row_b {p : Program} {l : Launch} {e : Env} {R : Room} {s : State} {m : MethodId} {args : Array Value} {below : List Frame} {meth : Method} {c : Code} {H : Heap} {locs : List Loc} {cells slots : Nat} {Q : State → Prop} {cc : ByteArray} {nL index pc : Nat} {own : String} {ls : Array Slot} {rest : List Value} {D : va_G} {K : Nat → ClassId} {a : Nat → Nat} {w n lap : Nat} {op mu ba la en : Nat → Nat} {pr : Nat → Option Nat} {sc : MSc} {ci : Nat} {z : Int32} (S : CallFix p m c cc nL s args lw_tb own) (hI : PI D K (mW K a w n lap op mu ba la en pr sc) s H) (hG : GOK w n lap op mu ba la en pr) (hc : ci < n) (hz : wiI z (-1) (nI 511) = false) (hlink : Cond.methodLink own index yX8_row ∈ lw_tb) (hR : RO 6 R cells slots) (hsz : ls.size = nL) (hW : (rest.map fun v => v.category).sum ≤ 8) (hdg : decode cc pc = .ok (.invokevirtual index, 3)) (kk : W p l e R s m args below meth c H locs cells slots Q (F0 m (pc + 3) ls (.int ((-2)) :: rest))) : W p l e R s m args below meth c H locs cells slots Q (F0 m pc ls (.int z :: .int (nI ci) :: .ref (a 0) :: rest)) :=
  kV (As := [.int (nI ci), .int z]) (b := a 0) S (mX8_row_b l hG hc hz) hlink tw_709 tw_710 tw_50 tw_711 (by show _ ∧ _ ∧ _ = some 2; decide +kernel) (by decide) hR blP (piU hI) (va_recv hI.2 hI.1 (ci := 8) (q0 := 0) rfl rfl) hsz rfl hW hdg kk

set_option maxHeartbeats 4000000 in
set_option maxRecDepth 100000 in
theorem mX8_row_c (l : Launch) {D : va_G} {K : Nat → ClassId} {a : Nat → Nat} {w n lap : Nat} {op mu ba la en : Nat → Nat} {pr : Nat → Option Nat} {sc : MSc} {ci : Nat} (hDis : Dis a 13) (hG : GOK w n lap op mu ba la en pr) (hc : ci < n) (hsc : SOK sc) : Met l yX8_row (TWd yX8_row cX8_row 3 (some .int)) (rmk 6) (va_Pc [.ref (a 0), .int (nI ci), .int (-1)] (fun U => PI D K (mW K a w n lap op mu ba la en pr sc) U U.heap)) (QX D K (fun u : MSc => some (.int (nI ((rws w op mu ba en pr ci).length)))) (fun u => (mW K a w n lap op mu ba la en pr u)) (fun u => SOK u) (adA a 13)) 0 0 (adA a 13) := by
  refine mt_of (by decide +kernel) (Nat.le_of_ble_eq_true rfl) ?_
  intro p e s m below meth c S hr hlk hI ls hl
  have S : CallFix p m c cX8_row 3 s ([.ref (a 0), .int (nI ci), .int (-1)] : List Value).toArray lw_tb RX8 := S
  have hl : lv_has ls 3 [(0, .ref (a 0)), (1, .int (nI ci)), (2, .int (-1))] := hl
  have hS : va_S (adA a 13) s.heap s.heap [] := va_S.rf
  obtain ⟨gw1, gw2, gn, gl1, gl2, gop, gmu, gba, gla, gen, gpr, gop2, gmu2, gba2, gla2, gme, gbe, gle, gee⟩ := id hG
  refine lv_aload_n S.1 S.2.1 dX8_row_0 rfl (lv_at hl 0 rfl) ?_
  refine lv_iload_n S.1 S.2.1 dX8_row_1 rfl (lv_at hl 1 rfl) ?_
  refine kX8_isCourse S hI hG tw_673 (rok (by decide)) hl.1 (Nat.le_of_ble_eq_true rfl) dX8_row_2 ?_
  refine ly_ifne (tgt := 10) S bI_e2 bI_e1 dX8_row_5 (by decide) (fun h1 => ?_) (fun h1 => ?_)
  · skip
    refine lv_iload_n S.1 S.2.1 dX8_row_10 rfl (lv_at hl 2 rfl) ?_
    refine lv_iconst (v := (-1)) S.1 S.2.1 dX8_row_11 (by decide) ?_
    refine lv_sipush (v := nI 511) S.1 S.2.1 dX8_row_12 (by decide) ?_
    refine kX8_within S  tw_658 (rok (by decide)) hl.1 (Nat.le_of_ble_eq_true rfl) dX8_row_15 ?_
    refine ly_ifne (tgt := 24) S bI_e2 bI_e1 dX8_row_18 (by decide) (fun h2 => ?_) (fun h2 => ?_)
    · skip
      refine lv_aload_n S.1 S.2.1 dX8_row_24 rfl (lv_at hl 0 rfl) ?_
      refine lv_iload_n S.1 S.2.1 dX8_row_25 rfl (lv_at hl 1 rfl) ?_
      refine kX8_findRows S hI hS hDis hG (by omega) hsc tw_712 (rok (by decide)) hl.1 (Nat.le_of_ble_eq_true rfl) dX8_row_26 (fun u3 H locs hu3 hI hS _ _ => ?_)
      refine lv_iload_n S.1 S.2.1 dX8_row_29 rfl (lv_at hl 2 rfl) ?_
      refine ly_ifge (tgt := 42) S (fun q => q) (fun q => q) dX8_row_30 (by decide) (fun h4 => ?_) (fun h4 => ?_)
      · skip
        exact absurd h4 (by decide)
      · skip
        refine lv_aload_n S.1 S.2.1 dX8_row_33 rfl (lv_at hl 0 rfl) ?_
        refine g8 S hI 0 rfl 9 (by decide) tw_616 rfl dX8_row_34 ?_
        refine lv_iload_n S.1 S.2.1 dX8_row_37 rfl (lv_at hl 1 rfl) ?_
        refine ly_iald (v := (nI (u3.1 ci))) S hI 7 rfl (by omega) (by decide) rfl dX8_row_38 ?_
        refine lv_goto (tgt := 69) S.1 S.2.1 dX8_row_39 (by decide) ?_
        exact rw_i S hr hlk u3 (by rw [hu3.1]) hu3.2.2.2.2.2 hI hS dX8_row_69
    · skip
      exact absurd h2 (by rw [wi_m1]; decide)
  · skip
    exact absurd h1 (by rw [wiC (by omega) (by omega)]; decide)
theorem kX8_row_c {p : Program} {l : Launch} {e : Env} {R : Room} {s : State} {m : MethodId} {args : Array Value} {below : List Frame} {meth : Method} {c : Code} {H H0 : Heap} {locs : List Loc} {cells slots : Nat} {Q : State → Prop} {cc : ByteArray} {nL index pc : Nat} {own : String} {ls : Array Slot} {rest : List Value} {D : va_G} {K : Nat → ClassId} {a : Nat → Nat} {w n lap : Nat} {op mu ba la en : Nat → Nat} {pr : Nat → Option Nat} {sc : MSc} {ci : Nat} (S : CallFix p m c cc nL s args lw_tb own) (hI : PI D K (mW K a w n lap op mu ba la en pr sc) s H) (hS : va_S (adA a 13) H0 H locs) (hDis : Dis a 13) (hG : GOK w n lap op mu ba la en pr) (hc : ci < n) (hsc : SOK sc) (hlink : Cond.methodLink own index yX8_row ∈ lw_tb) (hR : RO 6 R cells slots) (hsz : ls.size = nL) (hW : (rest.map fun v => v.category).sum ≤ 8) (hdg : decode cc pc = .ok (.invokevirtual index, 3)) (kk : ∀ (u : MSc) (H1 : Heap) (locs1 : List Loc), (SOK u) → PI D K (mW K a w n lap op mu ba la en pr u) s H1 → va_S (adA a 13) H0 H1 locs1 → H.size ≤ H1.size → (∀ q : Nat, q < H.size → ¬ (adA a 13) q → H1[q]? = H[q]?) → W p l e R s m args below meth c H1 locs1 cells slots Q (F0 m (pc + 3) ls ((.int (nI ((rws w op mu ba en pr ci).length))) :: rest))) : W p l e R s m args below meth c H locs cells slots Q (F0 m pc ls (.int (-1) :: .int (nI ci) :: .ref (a 0) :: rest)) :=
  kVX (As := [.int (nI ci), .int (-1)]) (b := a 0) S (mX8_row_c l hDis hG hc hsc) hlink tw_709 tw_710 tw_50 tw_711 (by show _ ∧ _ ∧ _ = some 2; decide +kernel) (by decide) hR blP (piU hI) (va_recv hI.2 hI.1 (ci := 8) (q0 := 0) rfl rfl) hS (fun _ h => h) hsz rfl hW hdg kk

set_option maxHeartbeats 4000000 in
set_option maxRecDepth 100000 in
theorem mX8_row_d (l : Launch) {D : va_G} {K : Nat → ClassId} {a : Nat → Nat} {w n lap : Nat} {op mu ba la en : Nat → Nat} {pr : Nat → Option Nat} {sc : MSc} {ci : Nat} {k : Nat} (hDis : Dis a 13) (hG : GOK w n lap op mu ba la en pr) (hc : ci < n) (hk : k ≤ 511) (hsc : SOK sc) : Met l yX8_row (TWd yX8_row cX8_row 3 (some .int)) (rmk 6) (va_Pc [.ref (a 0), .int (nI ci), .int (nI k)] (fun U => PI D K (mW K a w n lap op mu ba la en pr sc) U U.heap)) (QX D K (fun u : MSc => some (.int (rwI w op mu ba en pr ci k))) (fun u => (mW K a w n lap op mu ba la en pr u)) (fun u => SOK u) (adA a 13)) 0 0 (adA a 13) := by
  refine mt_of (by decide +kernel) (Nat.le_of_ble_eq_true rfl) ?_
  intro p e s m below meth c S hr hlk hI ls hl
  have S : CallFix p m c cX8_row 3 s ([.ref (a 0), .int (nI ci), .int (nI k)] : List Value).toArray lw_tb RX8 := S
  have hl : lv_has ls 3 [(0, .ref (a 0)), (1, .int (nI ci)), (2, .int (nI k))] := hl
  have hS : va_S (adA a 13) s.heap s.heap [] := va_S.rf
  obtain ⟨gw1, gw2, gn, gl1, gl2, gop, gmu, gba, gla, gen, gpr, gop2, gmu2, gba2, gla2, gme, gbe, gle, gee⟩ := id hG
  refine lv_aload_n S.1 S.2.1 dX8_row_0 rfl (lv_at hl 0 rfl) ?_
  refine lv_iload_n S.1 S.2.1 dX8_row_1 rfl (lv_at hl 1 rfl) ?_
  refine kX8_isCourse S hI hG tw_673 (rok (by decide)) hl.1 (Nat.le_of_ble_eq_true rfl) dX8_row_2 ?_
  refine ly_ifne (tgt := 10) S bI_e2 bI_e1 dX8_row_5 (by decide) (fun h1 => ?_) (fun h1 => ?_)
  · skip
    refine lv_iload_n S.1 S.2.1 dX8_row_10 rfl (lv_at hl 2 rfl) ?_
    refine lv_iconst (v := (-1)) S.1 S.2.1 dX8_row_11 (by decide) ?_
    refine lv_sipush (v := nI 511) S.1 S.2.1 dX8_row_12 (by decide) ?_
    refine kX8_within S  tw_658 (rok (by decide)) hl.1 (Nat.le_of_ble_eq_true rfl) dX8_row_15 ?_
    refine ly_ifne (tgt := 24) S bI_e2 bI_e1 dX8_row_18 (by decide) (fun h2 => ?_) (fun h2 => ?_)
    · skip
      refine lv_aload_n S.1 S.2.1 dX8_row_24 rfl (lv_at hl 0 rfl) ?_
      refine lv_iload_n S.1 S.2.1 dX8_row_25 rfl (lv_at hl 1 rfl) ?_
      refine kX8_findRows S hI hS hDis hG (by omega) hsc tw_712 (rok (by decide)) hl.1 (Nat.le_of_ble_eq_true rfl) dX8_row_26 (fun u3 H locs hu3 hI hS _ _ => ?_)
      have l1 := hu3.2.2.2.2.2.1 ci
      have l2 := hu3.1
      refine lv_iload_n S.1 S.2.1 dX8_row_29 rfl (lv_at hl 2 rfl) ?_
      refine ly_ifge (tgt := 42) S (fun _ => trivial) (fun q => (nI_n1 (by omega) (Int32.not_le.mp q) : False)) dX8_row_30 (by decide) (fun h4 => ?_) (fun h4 => ?_)
      · skip
        refine lv_iload_n S.1 S.2.1 dX8_row_42 rfl (lv_at hl 2 rfl) ?_
        refine lv_aload_n S.1 S.2.1 dX8_row_43 rfl (lv_at hl 0 rfl) ?_
        refine g8 S hI 0 rfl 9 (by decide) tw_616 rfl dX8_row_44 ?_
        refine lv_iload_n S.1 S.2.1 dX8_row_47 rfl (lv_at hl 1 rfl) ?_
        refine ly_iald (v := (nI (u3.1 ci))) S hI 7 rfl (by omega) (by decide) rfl dX8_row_48 ?_
        refine ly_cmge (tgt := 67) S (nI_le1 (by omega) (by omega)) (nI_le2 (by omega) (by omega)) dX8_row_49 (by decide) (fun h5 => ?_) (fun h5 => ?_)
        · skip
          refine lv_bipush (v := (-9)) S.1 S.2.1 dX8_row_67 (by decide) ?_
          exact rw_i S hr hlk u3 (by unfold rwI; rw [if_neg (by omega)]) hu3.2.2.2.2.2 hI hS dX8_row_69
        · skip
          refine lv_aload_n S.1 S.2.1 dX8_row_52 rfl (lv_at hl 0 rfl) ?_
          refine g8 S hI 0 rfl 10 (by decide) tw_617 rfl dX8_row_53 ?_
          refine lv_sipush (v := nI 512) S.1 S.2.1 dX8_row_56 (by decide) ?_
          refine lv_iload_n S.1 S.2.1 dX8_row_59 rfl (lv_at hl 1 rfl) ?_
          refine lv_imul S.1 S.2.1 dX8_row_60 ?_
          refine ly_top (z := nI (512 * ci)) (pk_mul _ _) ?_
          refine lv_iload_n S.1 S.2.1 dX8_row_61 rfl (lv_at hl 2 rfl) ?_
          refine lv_iadd S.1 S.2.1 dX8_row_62 ?_
          refine ly_top (z := nI ((512 * ci) + k)) (nI_add _ _) ?_
          refine ly_iald (v := (nI (u3.2.1 ((512 * ci) + k)))) S hI 8 rfl (by omega) (by decide) rfl dX8_row_63 ?_
          refine lv_goto (tgt := 69) S.1 S.2.1 dX8_row_64 (by decide) ?_
          exact rw_i S hr hlk u3 (by unfold rwI; rw [if_pos (by omega), hu3.2.1 k (by omega)]) hu3.2.2.2.2.2 hI hS dX8_row_69
      · skip
        exact h4.elim
    · skip
      exact absurd h2 (by rw [wi_k hk]; decide)
  · skip
    exact absurd h1 (by rw [wiC (by omega) (by omega)]; decide)
theorem kX8_row_d {p : Program} {l : Launch} {e : Env} {R : Room} {s : State} {m : MethodId} {args : Array Value} {below : List Frame} {meth : Method} {c : Code} {H H0 : Heap} {locs : List Loc} {cells slots : Nat} {Q : State → Prop} {cc : ByteArray} {nL index pc : Nat} {own : String} {ls : Array Slot} {rest : List Value} {D : va_G} {K : Nat → ClassId} {a : Nat → Nat} {w n lap : Nat} {op mu ba la en : Nat → Nat} {pr : Nat → Option Nat} {sc : MSc} {ci : Nat} {k : Nat} (S : CallFix p m c cc nL s args lw_tb own) (hI : PI D K (mW K a w n lap op mu ba la en pr sc) s H) (hS : va_S (adA a 13) H0 H locs) (hDis : Dis a 13) (hG : GOK w n lap op mu ba la en pr) (hc : ci < n) (hk : k ≤ 511) (hsc : SOK sc) (hlink : Cond.methodLink own index yX8_row ∈ lw_tb) (hR : RO 6 R cells slots) (hsz : ls.size = nL) (hW : (rest.map fun v => v.category).sum ≤ 8) (hdg : decode cc pc = .ok (.invokevirtual index, 3)) (kk : ∀ (u : MSc) (H1 : Heap) (locs1 : List Loc), (SOK u) → PI D K (mW K a w n lap op mu ba la en pr u) s H1 → va_S (adA a 13) H0 H1 locs1 → H.size ≤ H1.size → (∀ q : Nat, q < H.size → ¬ (adA a 13) q → H1[q]? = H[q]?) → W p l e R s m args below meth c H1 locs1 cells slots Q (F0 m (pc + 3) ls ((.int (rwI w op mu ba en pr ci k)) :: rest))) : W p l e R s m args below meth c H locs cells slots Q (F0 m pc ls (.int (nI k) :: .int (nI ci) :: .ref (a 0) :: rest)) :=
  kVX (As := [.int (nI ci), .int (nI k)]) (b := a 0) S (mX8_row_d l hDis hG hc hk hsc) hlink tw_709 tw_710 tw_50 tw_711 (by show _ ∧ _ ∧ _ = some 2; decide +kernel) (by decide) hR blP (piU hI) (va_recv hI.2 hI.1 (ci := 8) (q0 := 0) rfl rfl) hS (fun _ h => h) hsz rfl hW hdg kk
