set_option maxHeartbeats 4000000 in
set_option maxRecDepth 100000 in
theorem mJ6_bitCount_0f7a4 (l : Launch) {x : Nat} (hx : x < 1024) : Met l yJ6_bitCount_0f7a4 (TWd yJ6_bitCount_0f7a4 cJ6_bitCount_0f7a4 1 (some .int)) (rmk 0) (va_Pc [.int (nI x)] (fun _ => True)) (QcRead (nI (popG 31 x))) 0 0 (fun _ => False) := by
  refine mt_of (by decide +kernel) (Nat.le_of_ble_eq_true rfl) ?_
  intro p e s m below meth c S hr hlk hI ls hl
  have S : CallFix p m c cJ6_bitCount_0f7a4 1 s ([.int (nI x)] : List Value).toArray lw_tb RJ6 := S
  have hl : lv_has ls 1 [(0, .int (nI x))] := hl
  refine lv_iload_n S.1 S.2.1 dJ6_bitCount_0f7a4_0 rfl (lv_at hl 0 rfl) ?_
  refine lv_iload_n S.1 S.2.1 dJ6_bitCount_0f7a4_1 rfl (lv_at hl 0 rfl) ?_
  refine lv_iconst (v := nI 1) S.1 S.2.1 dJ6_bitCount_0f7a4_2 (by decide) ?_
  refine lv_iushr (v := ((nI x).toUInt32 >>> ((nI 1).toUInt32 &&& Int32.toUInt32 31)).toInt32) S.1 S.2.1 dJ6_bitCount_0f7a4_3 rfl ?_
  refine lv_ldcw S.1 S.2.1 S.2.2.2.1 (S.2.2.2.2 _ tw_594) dJ6_bitCount_0f7a4_4 ?_
  refine ly_top (z := nI 1431655765) (by decide) ?_
  refine lv_iand S.1 S.2.1 dJ6_bitCount_0f7a4_7 ?_
  refine lv_isub S.1 S.2.1 dJ6_bitCount_0f7a4_8 ?_
  refine ly_top (z := (bc1 (nI x))) rfl ?_
  refine lv_istore_n (lv' := [(0, .int (bc1 (nI x)))]) S.1 S.2.1 dJ6_bitCount_0f7a4_9 rfl hl (by decide) rfl (fun ls hl => ?_)
  refine lv_iload_n S.1 S.2.1 dJ6_bitCount_0f7a4_10 rfl (lv_at hl 0 rfl) ?_
  refine lv_ldcw S.1 S.2.1 S.2.2.2.1 (S.2.2.2.2 _ tw_595) dJ6_bitCount_0f7a4_11 ?_
  refine ly_top (z := nI 858993459) (by decide) ?_
  refine lv_iand S.1 S.2.1 dJ6_bitCount_0f7a4_14 ?_
  refine lv_iload_n S.1 S.2.1 dJ6_bitCount_0f7a4_15 rfl (lv_at hl 0 rfl) ?_
  refine lv_iconst (v := nI 2) S.1 S.2.1 dJ6_bitCount_0f7a4_16 (by decide) ?_
  refine lv_iushr (v := ((bc1 (nI x)).toUInt32 >>> ((nI 2).toUInt32 &&& Int32.toUInt32 31)).toInt32) S.1 S.2.1 dJ6_bitCount_0f7a4_17 rfl ?_
  refine lv_ldcw S.1 S.2.1 S.2.2.2.1 (S.2.2.2.2 _ tw_595) dJ6_bitCount_0f7a4_18 ?_
  refine ly_top (z := nI 858993459) (by decide) ?_
  refine lv_iand S.1 S.2.1 dJ6_bitCount_0f7a4_21 ?_
  refine lv_iadd S.1 S.2.1 dJ6_bitCount_0f7a4_22 ?_
  refine ly_top (z := (bc2 (bc1 (nI x)))) rfl ?_
  refine lv_istore_n (lv' := [(0, .int (bc2 (bc1 (nI x))))]) S.1 S.2.1 dJ6_bitCount_0f7a4_23 rfl hl (by decide) rfl (fun ls hl => ?_)
  refine lv_iload_n S.1 S.2.1 dJ6_bitCount_0f7a4_24 rfl (lv_at hl 0 rfl) ?_
  refine lv_iload_n S.1 S.2.1 dJ6_bitCount_0f7a4_25 rfl (lv_at hl 0 rfl) ?_
  refine lv_iconst (v := nI 4) S.1 S.2.1 dJ6_bitCount_0f7a4_26 (by decide) ?_
  refine lv_iushr (v := ((bc2 (bc1 (nI x))).toUInt32 >>> ((nI 4).toUInt32 &&& Int32.toUInt32 31)).toInt32) S.1 S.2.1 dJ6_bitCount_0f7a4_27 rfl ?_
  refine lv_iadd S.1 S.2.1 dJ6_bitCount_0f7a4_28 ?_
  refine lv_ldcw S.1 S.2.1 S.2.2.2.1 (S.2.2.2.2 _ tw_596) dJ6_bitCount_0f7a4_29 ?_
  refine ly_top (z := nI 252645135) (by decide) ?_
  refine lv_iand S.1 S.2.1 dJ6_bitCount_0f7a4_32 ?_
  refine ly_top (z := (bc3 (bc2 (bc1 (nI x))))) rfl ?_
  refine lv_istore_n (lv' := [(0, .int (bc3 (bc2 (bc1 (nI x)))))]) S.1 S.2.1 dJ6_bitCount_0f7a4_33 rfl hl (by decide) rfl (fun ls hl => ?_)
  refine lv_iload_n S.1 S.2.1 dJ6_bitCount_0f7a4_34 rfl (lv_at hl 0 rfl) ?_
  refine lv_iload_n S.1 S.2.1 dJ6_bitCount_0f7a4_35 rfl (lv_at hl 0 rfl) ?_
  refine lv_bipush (v := nI 8) S.1 S.2.1 dJ6_bitCount_0f7a4_36 (by decide) ?_
  refine lv_iushr (v := ((bc3 (bc2 (bc1 (nI x)))).toUInt32 >>> ((nI 8).toUInt32 &&& Int32.toUInt32 31)).toInt32) S.1 S.2.1 dJ6_bitCount_0f7a4_38 rfl ?_
  refine lv_iadd S.1 S.2.1 dJ6_bitCount_0f7a4_39 ?_
  refine ly_top (z := (bc4 (bc3 (bc2 (bc1 (nI x)))))) rfl ?_
  refine lv_istore_n (lv' := [(0, .int (bc4 (bc3 (bc2 (bc1 (nI x))))))]) S.1 S.2.1 dJ6_bitCount_0f7a4_40 rfl hl (by decide) rfl (fun ls hl => ?_)
  refine lv_iload_n S.1 S.2.1 dJ6_bitCount_0f7a4_41 rfl (lv_at hl 0 rfl) ?_
  refine lv_iload_n S.1 S.2.1 dJ6_bitCount_0f7a4_42 rfl (lv_at hl 0 rfl) ?_
  refine lv_bipush (v := nI 16) S.1 S.2.1 dJ6_bitCount_0f7a4_43 (by decide) ?_
  refine lv_iushr (v := ((bc4 (bc3 (bc2 (bc1 (nI x))))).toUInt32 >>> ((nI 16).toUInt32 &&& Int32.toUInt32 31)).toInt32) S.1 S.2.1 dJ6_bitCount_0f7a4_45 rfl ?_
  refine lv_iadd S.1 S.2.1 dJ6_bitCount_0f7a4_46 ?_
  refine ly_top (z := (bc5 (bc4 (bc3 (bc2 (bc1 (nI x))))))) rfl ?_
  refine lv_istore_n (lv' := [(0, .int (bc5 (bc4 (bc3 (bc2 (bc1 (nI x)))))))]) S.1 S.2.1 dJ6_bitCount_0f7a4_47 rfl hl (by decide) rfl (fun ls hl => ?_)
  refine lv_iload_n S.1 S.2.1 dJ6_bitCount_0f7a4_48 rfl (lv_at hl 0 rfl) ?_
  refine lv_bipush (v := nI 63) S.1 S.2.1 dJ6_bitCount_0f7a4_49 (by decide) ?_
  refine lv_iand S.1 S.2.1 dJ6_bitCount_0f7a4_51 ?_
  exact rt_i S hr hlk (bc_all x hx) dJ6_bitCount_0f7a4_52
theorem kJ6_bitCount_0f7a4 {p : Program} {l : Launch} {e : Env} {R : Room} {s : State} {m : MethodId} {args : Array Value} {below : List Frame} {meth : Method} {c : Code} {H : Heap} {locs : List Loc} {cells slots : Nat} {Q : State → Prop} {cc : ByteArray} {nL index pc : Nat} {own : String} {ls : Array Slot} {rest : List Value} {x : Nat} (S : CallFix p m c cc nL s args lw_tb own) (hx : x < 1024) (hlink : Cond.methodLink own index yJ6_bitCount_0f7a4 ∈ lw_tb) (hR : RO 0 R cells slots) (hsz : ls.size = nL) (hW : (rest.map fun v => v.category).sum ≤ 8) (hdg : decode cc pc = .ok (.invokestatic index, 3)) (kk : W p l e R s m args below meth c H locs cells slots Q (F0 m (pc + 3) ls (.int (nI (popG 31 x)) :: rest))) : W p l e R s m args below meth c H locs cells slots Q (F0 m pc ls (.int (nI x) :: rest)) :=
  kS (As := [.int (nI x)]) S (mJ6_bitCount_0f7a4 l hx) hlink tw_592 tw_54 tw_593 (by show _ ∧ _ ∧ _ = some 1; decide +kernel) (by decide) hR blT (fun _ _ _ => trivial) hsz rfl hW hdg kk

set_option maxHeartbeats 4000000 in
set_option maxRecDepth 100000 in
theorem mX6_lengthAround (l : Launch) {D : va_G} {K : Nat → ClassId} {b : Nat → Nat} {w n lap : Nat} {op mu ba la en : Nat → Nat} {pr : Nat → Option Nat} {fr : Bool} {co : Nat → Nat → Nat} {cw cj : Nat → Int64} {cl : Nat} {rv : Int64} {rc : Nat} {pj : Nat → Nat → Nat} {pw ch : Nat → Nat} {pl lc : Nat} {tl : Nat → Nat} {ci : Nat} {x : Nat} (hG : GOK w n lap op mu ba la en pr) (hc : ci < n) (hx : x < w) (ho : Nat.testBit (op ci) x = false) : Met l yX6_lengthAround (TWd yX6_lengthAround cX6_lengthAround 6 (some .int)) (rmk 2) (va_Pc [.ref (b 1), .ref (b (19 + ci)), .int (nI x)] (fun U => PI D K (cW K b w n lap op mu ba la en pr fr co cw cj cl rv rc pj pw ch pl lc tl) U U.heap)) (QcRead (nI (lenF w (op ci) (la ci) (foF (op ci) (la ci) x)))) 0 0 (fun _ => False) := by
  refine mt_of (by decide +kernel) (Nat.le_of_ble_eq_true rfl) ?_
  intro p e s m below meth c S hr hlk hI ls hl
  have S : CallFix p m c cX6_lengthAround 6 s ([.ref (b 1), .ref (b (19 + ci)), .int (nI x)] : List Value).toArray lw_tb RX6 := S
  have hl : lv_has ls 6 [(0, .ref (b 1)), (1, .ref (b (19 + ci))), (2, .int (nI x))] := hl
  obtain ⟨gw1, gw2, gn, gl1, gl2, gop, gmu, gba, gla, gen, gpr, gop2, gmu2, gba2, gla2, gme, gbe, gle, gee⟩ := id hG
  have o1 := gla ci
  refine lv_aload_n S.1 S.2.1 dX6_lengthAround_0 rfl (lv_at hl 0 rfl) ?_
  refine lv_aload_n S.1 S.2.1 dX6_lengthAround_1 rfl (lv_at hl 1 rfl) ?_
  refine lv_aload_n S.1 S.2.1 dX6_lengthAround_2 rfl (lv_at hl 1 rfl) ?_
  refine g2 S hI (19 + ci) (cw_cr (by omega)) 3 (by decide) tw_110 rfl dX6_lengthAround_3 ?_
  refine ly_top (z := (nI (la ci))) (by rw [gzl (f := la) (by omega)]) ?_
  refine kX6_bounds S hI hG (by first | omega | exact bwc_lt (by omega)) (by omega) tw_344 (rok (by decide)) hl.1 (Nat.le_of_ble_eq_true rfl) dX6_lengthAround_6 ?_
  have b1 : bnd w (gz op ci) (la ci) < 2048 := bnd_lt gw2 gop _ (by omega)
  rw [gzl (by omega)] at b1
  refine ly_top (z := (nI (bnd w (op ci) (la ci)))) (by rw [gzl (f := op) (by omega)]) ?_
  refine lv_istore_n (lv' := [(3, .int (nI (bnd w (op ci) (la ci)))), (0, .ref (b 1)), (1, .ref (b (19 + ci))), (2, .int (nI x))]) S.1 S.2.1 dX6_lengthAround_9 rfl hl (by decide) rfl (fun ls hl => ?_)
  refine lv_iload_n S.1 S.2.1 dX6_lengthAround_10 rfl (lv_at hl 3 rfl) ?_
  refine lv_istore (lv' := [(4, .int (nI x)), (3, .int (nI (bnd w (op ci) (la ci)))), (0, .ref (b 1)), (1, .ref (b (19 + ci))), (2, .int (nI x))]) S.1 S.2.1 dX6_lengthAround_11 hl (by decide) rfl (fun ls hl => ?_)
  have L13 : ∀ (f13 : Nat) (xf : Nat), (xf ≤ x) → (∀ y, xf < y → y ≤ x → (bnd w (op ci) (la ci)).testBit y = false) → xf < f13 → ∀ (ls : Array Slot), lv_has ls 6 [(0, .ref (b 1)), (1, .ref (b (19 + ci))), (2, .int (nI x)), (3, .int (nI (bnd w (op ci) (la ci)))), (4, .int (nI xf))] → W p l e (rmk 2) s m ([.ref (b 1), .ref (b (19 + ci)), .int (nI x)] : List Value).toArray below meth c s.heap [] 0 0 (MQ below (QcRead (nI (lenF w (op ci) (la ci) (foF (op ci) (la ci) x)))) ([.ref (b 1), .ref (b (19 + ci)), .int (nI x)] : List Value).toArray s 0 0 (fun _ => False)) (F0 m 13 ls []) := by
    intro f13
    induction f13 with
    | zero =>
      intro xf i1 i2 hm
      exact absurd hm (Nat.not_lt_zero _)
    | succ f13 ih13 =>
      intro xf i1 i2 hm13 ls hl
      refine lv_iload S.1 S.2.1 dX6_lengthAround_13 (lv_at hl 4 rfl) ?_
      refine ly_ifle (tgt := 33) S (fun q => nI_p2 (by omega) (Int32.not_lt.mpr q)) (fun q => nI_p1 (by omega) (Int32.not_le.mp q)) dX6_lengthAround_15 (by decide) (fun h2 => ?_) (fun h2 => ?_)
      · skip
        have c1 : xf = 0 ∨ (bnd w (op ci) (la ci)).testBit xf = true := Or.inl (by omega)
        refine lv_iload_n S.1 S.2.1 dX6_lengthAround_33 rfl (lv_at hl 2 rfl) ?_
        refine lv_iconst (v := nI 1) S.1 S.2.1 dX6_lengthAround_34 (by decide) ?_
        refine lv_iadd S.1 S.2.1 dX6_lengthAround_35 ?_
        refine ly_top (z := nI (x + 1)) (nI_add _ _) ?_
        refine lv_istore (lv' := [(5, .int (nI (x + 1))), (0, .ref (b 1)), (1, .ref (b (19 + ci))), (2, .int (nI x)), (3, .int (nI (bnd w (op ci) (la ci)))), (4, .int (nI xf))]) S.1 S.2.1 dX6_lengthAround_36 hl (by decide) rfl (fun ls hl => ?_)
        have L38 : ∀ (f38 : Nat) (xt : Nat), (x < xt) → (xt ≤ w) → (∀ y, x < y → y < xt → (bnd w (op ci) (la ci)).testBit y = false) → w - xt < f38 → ∀ (ls : Array Slot), lv_has ls 6 [(0, .ref (b 1)), (1, .ref (b (19 + ci))), (2, .int (nI x)), (3, .int (nI (bnd w (op ci) (la ci)))), (4, .int (nI xf)), (5, .int (nI xt))] → W p l e (rmk 2) s m ([.ref (b 1), .ref (b (19 + ci)), .int (nI x)] : List Value).toArray below meth c s.heap [] 0 0 (MQ below (QcRead (nI (lenF w (op ci) (la ci) (foF (op ci) (la ci) x)))) ([.ref (b 1), .ref (b (19 + ci)), .int (nI x)] : List Value).toArray s 0 0 (fun _ => False)) (F0 m 38 ls []) := by
          intro f38
          induction f38 with
          | zero =>
            intro xt j1 j2 j3 hm
            exact absurd hm (Nat.not_lt_zero _)
          | succ f38 ih38 =>
            intro xt j1 j2 j3 hm38 ls hl
            refine lv_iload S.1 S.2.1 dX6_lengthAround_38 (lv_at hl 5 rfl) ?_
            refine lv_aload_n S.1 S.2.1 dX6_lengthAround_40 rfl (lv_at hl 0 rfl) ?_
            refine g6 S hI 1 rfl 3 (by decide) tw_125 rfl dX6_lengthAround_41 ?_
            refine ly_cmge (tgt := 62) S (nI_le1 (by omega) (by omega)) (nI_le2 (by omega) (by omega)) dX6_lengthAround_44 (by decide) (fun h3 => ?_) (fun h3 => ?_)
            · skip
              have c2 : xt = w ∨ (bnd w (op ci) (la ci)).testBit xt = true := Or.inl (by omega)
              refine lv_iload S.1 S.2.1 dX6_lengthAround_62 (lv_at hl 5 rfl) ?_
              refine lv_iload S.1 S.2.1 dX6_lengthAround_64 (lv_at hl 4 rfl) ?_
              refine lv_isub S.1 S.2.1 dX6_lengthAround_66 ?_
              refine ly_top (z := nI (xt - xf)) (pk_sub (by omega)) ?_
              exact rt_i S hr hlk (congrArg nI (M_len (gop2 ci hc) hx ho i1 c1 i2 j1 j2 c2 j3)) dX6_lengthAround_67
            · skip
              refine lv_iload_n S.1 S.2.1 dX6_lengthAround_47 rfl (lv_at hl 3 rfl) ?_
              refine lv_iload S.1 S.2.1 dX6_lengthAround_48 (lv_at hl 5 rfl) ?_
              refine lv_ishr S.1 S.2.1 dX6_lengthAround_50 ?_
              refine ly_top (z := nI ((bnd w (op ci) (la ci)) >>> xt)) (nI_shr (by omega) (by omega)) ?_
              refine lv_iconst (v := nI 1) S.1 S.2.1 dX6_lengthAround_51 (by decide) ?_
              refine lv_iand S.1 S.2.1 dX6_lengthAround_52 ?_
              refine ly_top (z := nI (((bnd w (op ci) (la ci)) >>> xt) &&& 1)) (nI_and (Nat.lt_of_le_of_lt (Nat.shiftRight_le _ _) (by omega)) (by omega)) ?_
              refine ly_top (z := (nI (((bnd w (op ci) (la ci)) >>> xt) % 2))) (by rw [and1]) ?_
              have q50 : ((bnd w (op ci) (la ci)) >>> xt) % 2 < 2 := Nat.mod_lt _ (by decide)
              refine ly_ifne (tgt := 62) S (nI_z2 (by omega)) (nI_z1 (by omega)) dX6_lengthAround_53 (by decide) (fun h4 => ?_) (fun h4 => ?_)
              · skip
                have c2 : xt = w ∨ (bnd w (op ci) (la ci)).testBit xt = true := Or.inr (tb1 (by omega))
                refine lv_iload S.1 S.2.1 dX6_lengthAround_62 (lv_at hl 5 rfl) ?_
                refine lv_iload S.1 S.2.1 dX6_lengthAround_64 (lv_at hl 4 rfl) ?_
                refine lv_isub S.1 S.2.1 dX6_lengthAround_66 ?_
                refine ly_top (z := nI (xt - xf)) (pk_sub (by omega)) ?_
                exact rt_i S hr hlk (congrArg nI (M_len (gop2 ci hc) hx ho i1 c1 i2 j1 j2 c2 j3)) dX6_lengthAround_67
              · skip
                refine lv_iinc (v := nI (xt + 1)) (lv' := [(5, .int (nI (xt + 1))), (0, .ref (b 1)), (1, .ref (b (19 + ci))), (2, .int (nI x)), (3, .int (nI (bnd w (op ci) (la ci)))), (4, .int (nI xf))]) S.1 S.2.1 dX6_lengthAround_56 hl (k := 5) rfl (nJ_in _ _) (by decide) rfl (fun ls hl => ?_)
                refine lv_goto (tgt := 38) S.1 S.2.1 dX6_lengthAround_59 (by decide) ?_
                exact ih38 (xt + 1) (by omega) (by omega) (fun y h1 h2 => if e : y = xt then (by rw [e]; exact tb0 (by omega)) else j3 y h1 (by omega)) (by omega) _ (lv_sub hl [1, 2, 3, 4, 5, 0] rfl)
        exact L38 _ (x + 1) (by omega) (by omega) (fun y h1 h2 => absurd h1 (by omega)) (Nat.lt_succ_self _) _ (lv_sub hl [1, 2, 3, 4, 5, 0] rfl)
      · skip
        refine lv_iload_n S.1 S.2.1 dX6_lengthAround_18 rfl (lv_at hl 3 rfl) ?_
        refine lv_iload S.1 S.2.1 dX6_lengthAround_19 (lv_at hl 4 rfl) ?_
        refine lv_ishr S.1 S.2.1 dX6_lengthAround_21 ?_
        refine ly_top (z := nI ((bnd w (op ci) (la ci)) >>> xf)) (nI_shr (by omega) (by omega)) ?_
        refine lv_iconst (v := nI 1) S.1 S.2.1 dX6_lengthAround_22 (by decide) ?_
        refine lv_iand S.1 S.2.1 dX6_lengthAround_23 ?_
        refine ly_top (z := nI (((bnd w (op ci) (la ci)) >>> xf) &&& 1)) (nI_and (Nat.lt_of_le_of_lt (Nat.shiftRight_le _ _) (by omega)) (by omega)) ?_
        refine ly_top (z := (nI (((bnd w (op ci) (la ci)) >>> xf) % 2))) (by rw [and1]) ?_
        have q21 : ((bnd w (op ci) (la ci)) >>> xf) % 2 < 2 := Nat.mod_lt _ (by decide)
        refine ly_ifne (tgt := 33) S (nI_z2 (by omega)) (nI_z1 (by omega)) dX6_lengthAround_24 (by decide) (fun h5 => ?_) (fun h5 => ?_)
        · skip
          have c1 : xf = 0 ∨ (bnd w (op ci) (la ci)).testBit xf = true := Or.inr (tb1 (by omega))
          refine lv_iload_n S.1 S.2.1 dX6_lengthAround_33 rfl (lv_at hl 2 rfl) ?_
          refine lv_iconst (v := nI 1) S.1 S.2.1 dX6_lengthAround_34 (by decide) ?_
          refine lv_iadd S.1 S.2.1 dX6_lengthAround_35 ?_
          refine ly_top (z := nI (x + 1)) (nI_add _ _) ?_
          refine lv_istore (lv' := [(5, .int (nI (x + 1))), (0, .ref (b 1)), (1, .ref (b (19 + ci))), (2, .int (nI x)), (3, .int (nI (bnd w (op ci) (la ci)))), (4, .int (nI xf))]) S.1 S.2.1 dX6_lengthAround_36 hl (by decide) rfl (fun ls hl => ?_)
          have L38 : ∀ (f38 : Nat) (xt : Nat), (x < xt) → (xt ≤ w) → (∀ y, x < y → y < xt → (bnd w (op ci) (la ci)).testBit y = false) → w - xt < f38 → ∀ (ls : Array Slot), lv_has ls 6 [(0, .ref (b 1)), (1, .ref (b (19 + ci))), (2, .int (nI x)), (3, .int (nI (bnd w (op ci) (la ci)))), (4, .int (nI xf)), (5, .int (nI xt))] → W p l e (rmk 2) s m ([.ref (b 1), .ref (b (19 + ci)), .int (nI x)] : List Value).toArray below meth c s.heap [] 0 0 (MQ below (QcRead (nI (lenF w (op ci) (la ci) (foF (op ci) (la ci) x)))) ([.ref (b 1), .ref (b (19 + ci)), .int (nI x)] : List Value).toArray s 0 0 (fun _ => False)) (F0 m 38 ls []) := by
            intro f38
            induction f38 with
            | zero =>
              intro xt j1 j2 j3 hm
              exact absurd hm (Nat.not_lt_zero _)
            | succ f38 ih38 =>
              intro xt j1 j2 j3 hm38 ls hl
              refine lv_iload S.1 S.2.1 dX6_lengthAround_38 (lv_at hl 5 rfl) ?_
              refine lv_aload_n S.1 S.2.1 dX6_lengthAround_40 rfl (lv_at hl 0 rfl) ?_
              refine g6 S hI 1 rfl 3 (by decide) tw_125 rfl dX6_lengthAround_41 ?_
              refine ly_cmge (tgt := 62) S (nI_le1 (by omega) (by omega)) (nI_le2 (by omega) (by omega)) dX6_lengthAround_44 (by decide) (fun h6 => ?_) (fun h6 => ?_)
              · skip
                have c2 : xt = w ∨ (bnd w (op ci) (la ci)).testBit xt = true := Or.inl (by omega)
                refine lv_iload S.1 S.2.1 dX6_lengthAround_62 (lv_at hl 5 rfl) ?_
                refine lv_iload S.1 S.2.1 dX6_lengthAround_64 (lv_at hl 4 rfl) ?_
                refine lv_isub S.1 S.2.1 dX6_lengthAround_66 ?_
                refine ly_top (z := nI (xt - xf)) (pk_sub (by omega)) ?_
                exact rt_i S hr hlk (congrArg nI (M_len (gop2 ci hc) hx ho i1 c1 i2 j1 j2 c2 j3)) dX6_lengthAround_67
              · skip
                refine lv_iload_n S.1 S.2.1 dX6_lengthAround_47 rfl (lv_at hl 3 rfl) ?_
                refine lv_iload S.1 S.2.1 dX6_lengthAround_48 (lv_at hl 5 rfl) ?_
                refine lv_ishr S.1 S.2.1 dX6_lengthAround_50 ?_
                refine ly_top (z := nI ((bnd w (op ci) (la ci)) >>> xt)) (nI_shr (by omega) (by omega)) ?_
                refine lv_iconst (v := nI 1) S.1 S.2.1 dX6_lengthAround_51 (by decide) ?_
                refine lv_iand S.1 S.2.1 dX6_lengthAround_52 ?_
                refine ly_top (z := nI (((bnd w (op ci) (la ci)) >>> xt) &&& 1)) (nI_and (Nat.lt_of_le_of_lt (Nat.shiftRight_le _ _) (by omega)) (by omega)) ?_
                refine ly_top (z := (nI (((bnd w (op ci) (la ci)) >>> xt) % 2))) (by rw [and1]) ?_
                have q50 : ((bnd w (op ci) (la ci)) >>> xt) % 2 < 2 := Nat.mod_lt _ (by decide)
                refine ly_ifne (tgt := 62) S (nI_z2 (by omega)) (nI_z1 (by omega)) dX6_lengthAround_53 (by decide) (fun h7 => ?_) (fun h7 => ?_)
                · skip
                  have c2 : xt = w ∨ (bnd w (op ci) (la ci)).testBit xt = true := Or.inr (tb1 (by omega))
                  refine lv_iload S.1 S.2.1 dX6_lengthAround_62 (lv_at hl 5 rfl) ?_
                  refine lv_iload S.1 S.2.1 dX6_lengthAround_64 (lv_at hl 4 rfl) ?_
                  refine lv_isub S.1 S.2.1 dX6_lengthAround_66 ?_
                  refine ly_top (z := nI (xt - xf)) (pk_sub (by omega)) ?_
                  exact rt_i S hr hlk (congrArg nI (M_len (gop2 ci hc) hx ho i1 c1 i2 j1 j2 c2 j3)) dX6_lengthAround_67
                · skip
                  refine lv_iinc (v := nI (xt + 1)) (lv' := [(5, .int (nI (xt + 1))), (0, .ref (b 1)), (1, .ref (b (19 + ci))), (2, .int (nI x)), (3, .int (nI (bnd w (op ci) (la ci)))), (4, .int (nI xf))]) S.1 S.2.1 dX6_lengthAround_56 hl (k := 5) rfl (nJ_in _ _) (by decide) rfl (fun ls hl => ?_)
                  refine lv_goto (tgt := 38) S.1 S.2.1 dX6_lengthAround_59 (by decide) ?_
                  exact ih38 (xt + 1) (by omega) (by omega) (fun y h1 h2 => if e : y = xt then (by rw [e]; exact tb0 (by omega)) else j3 y h1 (by omega)) (by omega) _ (lv_sub hl [1, 2, 3, 4, 5, 0] rfl)
          exact L38 _ (x + 1) (by omega) (by omega) (fun y h1 h2 => absurd h1 (by omega)) (Nat.lt_succ_self _) _ (lv_sub hl [1, 2, 3, 4, 5, 0] rfl)
        · skip
          refine lv_iinc (v := nI (xf - 1)) (lv' := [(4, .int (nI (xf - 1))), (0, .ref (b 1)), (1, .ref (b (19 + ci))), (2, .int (nI x)), (3, .int (nI (bnd w (op ci) (la ci))))]) S.1 S.2.1 dX6_lengthAround_27 hl (k := 4) rfl (nJ_im (show 1 ≤ xf by omega)) (by decide) rfl (fun ls hl => ?_)
          refine lv_goto (tgt := 13) S.1 S.2.1 dX6_lengthAround_30 (by decide) ?_
          exact ih13 (xf - 1) (by omega) (fun y h1 h2 => if e : y = xf then (by rw [e]; exact tb0 (by omega)) else i2 y (by omega) h2) (by omega) _ (lv_sub hl [1, 2, 3, 4, 0] rfl)
  exact L13 _ x (Nat.le_refl _) (fun y h1 h2 => absurd h1 (by omega)) (Nat.lt_succ_self _) _ (lv_sub hl [2, 3, 4, 1, 0] rfl)
theorem kX6_lengthAround {p : Program} {l : Launch} {e : Env} {R : Room} {s : State} {m : MethodId} {args : Array Value} {below : List Frame} {meth : Method} {c : Code} {H : Heap} {locs : List Loc} {cells slots : Nat} {Q : State → Prop} {cc : ByteArray} {nL index pc : Nat} {own : String} {ls : Array Slot} {rest : List Value} {D : va_G} {K : Nat → ClassId} {b : Nat → Nat} {w n lap : Nat} {op mu ba la en : Nat → Nat} {pr : Nat → Option Nat} {fr : Bool} {co : Nat → Nat → Nat} {cw cj : Nat → Int64} {cl : Nat} {rv : Int64} {rc : Nat} {pj : Nat → Nat → Nat} {pw ch : Nat → Nat} {pl lc : Nat} {tl : Nat → Nat} {ci : Nat} {x : Nat} (S : CallFix p m c cc nL s args lw_tb own) (hI : PI D K (cW K b w n lap op mu ba la en pr fr co cw cj cl rv rc pj pw ch pl lc tl) s H) (hG : GOK w n lap op mu ba la en pr) (hc : ci < n) (hx : x < w) (ho : Nat.testBit (op ci) x = false) (hlink : Cond.methodLink own index yX6_lengthAround ∈ lw_tb) (hR : RO 2 R cells slots) (hsz : ls.size = nL) (hW : (rest.map fun v => v.category).sum ≤ 8) (hdg : decode cc pc = .ok (.invokevirtual index, 3)) (kk : W p l e R s m args below meth c H locs cells slots Q (F0 m (pc + 3) ls (.int (nI (lenF w (op ci) (la ci) (foF (op ci) (la ci) x))) :: rest))) : W p l e R s m args below meth c H locs cells slots Q (F0 m pc ls (.int (nI x) :: .ref (b (19 + ci)) :: .ref (b 1) :: rest)) :=
  kV (As := [.ref (b (19 + ci)), .int (nI x)]) (b := b 1) S (mX6_lengthAround l hG hc hx ho) hlink tw_568 tw_569 tw_43 tw_570 (by show _ ∧ _ ∧ _ = some 2; decide +kernel) (by decide) hR blP (piU hI) (va_recv hI.2 hI.1 (ci := 6) (q0 := 1) rfl rfl) hsz rfl hW hdg kk

set_option maxHeartbeats 4000000 in
set_option maxRecDepth 100000 in
theorem mX6_ruleBrokenIn (l : Launch) {D : va_G} {K : Nat → ClassId} {b : Nat → Nat} {w n lap : Nat} {op mu ba la en : Nat → Nat} {pr : Nat → Option Nat} {fr : Bool} {co : Nat → Nat → Nat} {cw cj : Nat → Int64} {cl : Nat} {rv : Int64} {rc : Nat} {pj : Nat → Nat → Nat} {pw ch : Nat → Nat} {pl lc : Nat} {tl : Nat → Nat} {ci : Nat} (hG : GOK w n lap op mu ba la en pr) (hc : ci < n) : Met l yX6_ruleBrokenIn (TWd yX6_ruleBrokenIn cX6_ruleBrokenIn 5 (some .int)) (rmk 3) (va_Pc [.ref (b 1), .int (nI ci)] (fun U => PI D K (cW K b w n lap op mu ba la en pr fr co cw cj cl rv rc pj pw ch pl lc tl) U U.heap)) (QcRead (nI (lrF pr w lap op mu ba la en ci))) 0 0 (fun _ => False) := by
  refine mt_of (by decide +kernel) (Nat.le_of_ble_eq_true rfl) ?_
  intro p e s m below meth c S hr hlk hI ls hl
  have S : CallFix p m c cX6_ruleBrokenIn 5 s ([.ref (b 1), .int (nI ci)] : List Value).toArray lw_tb RX6 := S
  have hl : lv_has ls 5 [(0, .ref (b 1)), (1, .int (nI ci))] := hl
  obtain ⟨gw1, gw2, gn, gl1, gl2, gop, gmu, gba, gla, gen, gpr, gop2, gmu2, gba2, gla2, gme, gbe, gle, gee⟩ := id hG
  have o1 := gla ci
  have o2 := bl_lt gla ci
  have mr := M_rule hG hc (gla2 ci hc) (gle ci)
  refine lv_aload_n S.1 S.2.1 dX6_ruleBrokenIn_0 rfl (lv_at hl 0 rfl) ?_
  refine lv_iload_n S.1 S.2.1 dX6_ruleBrokenIn_1 rfl (lv_at hl 1 rfl) ?_
  refine kX6_at_c S hI (by omega) (by omega) tw_383 (rok (by decide)) hl.1 (Nat.le_of_ble_eq_true rfl) dX6_ruleBrokenIn_2 ?_
  refine lv_astore_n (lv' := [(2, .ref (b (19 + ci))), (0, .ref (b 1)), (1, .int (nI ci))]) S.1 S.2.1 dX6_ruleBrokenIn_5 rfl hl (by decide) rfl (fun ls hl => ?_)
  refine lv_aload_n S.1 S.2.1 dX6_ruleBrokenIn_6 rfl (lv_at hl 0 rfl) ?_
  refine g2 S hI (19 + ci) (cw_cr (by omega)) 3 (by decide) tw_110 rfl dX6_ruleBrokenIn_7 ?_
  refine ly_top (z := (nI (la ci))) (by rw [gzl (f := la) (by omega)]) ?_
  refine lv_istore_n (lv' := [(3, .int (nI (la ci))), (2, .ref (b (19 + ci))), (0, .ref (b 1)), (1, .int (nI ci))]) S.1 S.2.1 dX6_ruleBrokenIn_10 rfl hl (by decide) rfl (fun ls hl => ?_)
  refine lv_aload_n S.1 S.2.1 dX6_ruleBrokenIn_11 rfl (lv_at hl 1 rfl) ?_
  refine lv_iload_n S.1 S.2.1 dX6_ruleBrokenIn_12 rfl (lv_at hl 0 rfl) ?_
  refine kX2_keepsWithinSpans S hI hG (by first | omega | exact bwc_lt (by omega)) (by omega) tw_538 (rok (by decide)) hl.1 (Nat.le_of_ble_eq_true rfl) dX6_ruleBrokenIn_13 ?_
  refine ly_top (z := (bI (decide ((la ci) &&& (op ci ||| op ci <<< 1) = 0)))) (by rw [gzl (f := op) (by omega)]) ?_
  refine ly_ifne (tgt := 21) S bI_e2 bI_e1 dX6_ruleBrokenIn_16 (by decide) (fun h1 => ?_) (fun h1 => ?_)
  · skip
    refine lv_aload_n S.1 S.2.1 dX6_ruleBrokenIn_21 rfl (lv_at hl 1 rfl) ?_
    refine lv_iload_n S.1 S.2.1 dX6_ruleBrokenIn_22 rfl (lv_at hl 0 rfl) ?_
    refine kX2_keepsDemands S hI hG (by first | omega | exact bwc_lt (by omega)) (by omega) tw_539 (rok (by decide)) hl.1 (Nat.le_of_ble_eq_true rfl) dX6_ruleBrokenIn_23 ?_
    refine ly_top (z := (bI (decide ((la ci) &&& mu ci = mu ci) && decide ((la ci) &&& ba ci = 0)))) (by rw [gzl (f := ba) (by omega), gzl (f := mu) (by omega)]) ?_
    refine ly_ifne (tgt := 31) S bI_e2 bI_e1 dX6_ruleBrokenIn_26 (by decide) (fun h2 => ?_) (fun h2 => ?_)
    · skip
      refine lv_aload_n S.1 S.2.1 dX6_ruleBrokenIn_31 rfl (lv_at hl 2 rfl) ?_
      refine lv_iload_n S.1 S.2.1 dX6_ruleBrokenIn_32 rfl (lv_at hl 3 rfl) ?_
      refine lv_iload_n S.1 S.2.1 dX6_ruleBrokenIn_33 rfl (lv_at hl 0 rfl) ?_
      refine kX6_ruleBrokenByPieces S hI hG (by omega) (by omega) tw_540 (rok (by decide)) hl.1 (Nat.le_of_ble_eq_true rfl) dX6_ruleBrokenIn_34 ?_
      have b3 : rpS pr w (op ci) (bl op ci) (en (ci % 2 * 2)) (en (ci % 2 * 2 + 1)) (la ci) w ≤ 6 := rpS_le
      refine lv_istore (lv' := [(4, .int (nI (rpS pr w (op ci) (bl op ci) (en (ci % 2 * 2)) (en (ci % 2 * 2 + 1)) (la ci) w))), (3, .int (nI (la ci))), (2, .ref (b (19 + ci))), (0, .ref (b 1)), (1, .int (nI ci))]) S.1 S.2.1 dX6_ruleBrokenIn_37 hl (by decide) rfl (fun ls hl => ?_)
      refine lv_iload S.1 S.2.1 dX6_ruleBrokenIn_39 (lv_at hl 0 rfl) ?_
      refine ly_ifeq (tgt := 47) S (nI_z1 (by omega)) (nI_z2 (by omega)) dX6_ruleBrokenIn_41 (by decide) (fun h4 => ?_) (fun h4 => ?_)
      · skip
        refine lv_iload_n S.1 S.2.1 dX6_ruleBrokenIn_47 rfl (lv_at hl 1 rfl) ?_
        refine lv_aload_n S.1 S.2.1 dX6_ruleBrokenIn_48 rfl (lv_at hl 3 rfl) ?_
        refine lv_iload_n S.1 S.2.1 dX6_ruleBrokenIn_49 rfl (lv_at hl 4 rfl) ?_
        refine lv_iconst (v := nI 1) S.1 S.2.1 dX6_ruleBrokenIn_50 (by decide) ?_
        refine lv_isub S.1 S.2.1 dX6_ruleBrokenIn_51 ?_
        refine kX6_at_b S hI (by omega) (by omega) tw_383 (rok (by decide)) hl.1 (Nat.le_of_ble_eq_true rfl) dX6_ruleBrokenIn_52 ?_
        refine g2 S hI (19 + (bwc ci)) (cw_cr (bwc_lt (by omega))) 3 (by decide) tw_110 rfl dX6_ruleBrokenIn_55 ?_
        refine ly_top (z := (nI (bl la ci))) (by rw [gzb (by omega)]) ?_
        refine lv_aload_n S.1 S.2.1 dX6_ruleBrokenIn_58 rfl (lv_at hl 3 rfl) ?_
        refine g6 S hI 1 rfl 5 (by decide) tw_133 rfl dX6_ruleBrokenIn_59 ?_
        refine kX6_near S (by omega) (by omega) (by omega) tw_544 (rok (by decide)) hl.1 (Nat.le_of_ble_eq_true rfl) dX6_ruleBrokenIn_62 ?_
        have b5 : arG (bl la ci) lap < 4096 := arG_lt (by omega) _ (by omega)
        refine lv_iand S.1 S.2.1 dX6_ruleBrokenIn_65 ?_
        refine ly_top (z := nI ((la ci) &&& (arG (bl la ci) lap))) (nI_and (by omega) (by omega)) ?_
        refine ly_ifeq (tgt := 74) S (nI_z1 (Nat.lt_of_le_of_lt Nat.and_le_left (by omega))) (nI_z2 (Nat.lt_of_le_of_lt Nat.and_le_left (by omega))) dX6_ruleBrokenIn_66 (by decide) (fun h6 => ?_) (fun h6 => ?_)
        · skip
          refine lv_iconst (v := nI 0) S.1 S.2.1 dX6_ruleBrokenIn_74 (by decide) ?_
          exact rt_i S hr hlk (ri_0 mr h1 h2 h4 h6) dX6_ruleBrokenIn_75
        · skip
          refine lv_bipush (v := nI 7) S.1 S.2.1 dX6_ruleBrokenIn_69 (by decide) ?_
          refine lv_goto (tgt := 75) S.1 S.2.1 dX6_ruleBrokenIn_71 (by decide) ?_
          exact rt_i S hr hlk (ri_7 mr h1 h2 h4 h6) dX6_ruleBrokenIn_75
      · skip
        refine lv_iload S.1 S.2.1 dX6_ruleBrokenIn_44 (lv_at hl 0 rfl) ?_
        exact rt_i S hr hlk (ri_3 mr h1 h2 h4) dX6_ruleBrokenIn_46
    · skip
      refine lv_iconst (v := nI 2) S.1 S.2.1 dX6_ruleBrokenIn_29 (by decide) ?_
      exact rt_i S hr hlk (ri_2 mr h1 h2) dX6_ruleBrokenIn_30
  · skip
    refine lv_iconst (v := nI 1) S.1 S.2.1 dX6_ruleBrokenIn_19 (by decide) ?_
    exact rt_i S hr hlk (ri_1 mr h1) dX6_ruleBrokenIn_20
theorem kX6_ruleBrokenIn {p : Program} {l : Launch} {e : Env} {R : Room} {s : State} {m : MethodId} {args : Array Value} {below : List Frame} {meth : Method} {c : Code} {H : Heap} {locs : List Loc} {cells slots : Nat} {Q : State → Prop} {cc : ByteArray} {nL index pc : Nat} {own : String} {ls : Array Slot} {rest : List Value} {D : va_G} {K : Nat → ClassId} {b : Nat → Nat} {w n lap : Nat} {op mu ba la en : Nat → Nat} {pr : Nat → Option Nat} {fr : Bool} {co : Nat → Nat → Nat} {cw cj : Nat → Int64} {cl : Nat} {rv : Int64} {rc : Nat} {pj : Nat → Nat → Nat} {pw ch : Nat → Nat} {pl lc : Nat} {tl : Nat → Nat} {ci : Nat} (S : CallFix p m c cc nL s args lw_tb own) (hI : PI D K (cW K b w n lap op mu ba la en pr fr co cw cj cl rv rc pj pw ch pl lc tl) s H) (hG : GOK w n lap op mu ba la en pr) (hc : ci < n) (hlink : Cond.methodLink own index yX6_ruleBrokenIn ∈ lw_tb) (hR : RO 3 R cells slots) (hsz : ls.size = nL) (hW : (rest.map fun v => v.category).sum ≤ 8) (hdg : decode cc pc = .ok (.invokevirtual index, 3)) (kk : W p l e R s m args below meth c H locs cells slots Q (F0 m (pc + 3) ls (.int (nI (lrF pr w lap op mu ba la en ci)) :: rest))) : W p l e R s m args below meth c H locs cells slots Q (F0 m pc ls (.int (nI ci) :: .ref (b 1) :: rest)) :=
  kV (As := [.int (nI ci)]) (b := b 1) S (mX6_ruleBrokenIn l hG hc) hlink tw_535 tw_536 tw_43 tw_537 (by show _ ∧ _ ∧ _ = some 1; decide +kernel) (by decide) hR blP (piU hI) (va_recv hI.2 hI.1 (ci := 6) (q0 := 1) rfl rfl) hsz rfl hW hdg kk

set_option maxHeartbeats 4000000 in
set_option maxRecDepth 100000 in
theorem mX7_forgetWhatCanBe (l : Launch) {D : va_G} {K : Nat → ClassId} {b : Nat → Nat} {w n lap : Nat} {op mu ba la en : Nat → Nat} {pr : Nat → Option Nat} {fr : Bool} {co : Nat → Nat → Nat} {cw cj : Nat → Int64} {cl : Nat} {rv : Int64} {rc : Nat} {pj : Nat → Nat → Nat} {pw ch : Nat → Nat} {pl lc : Nat} {tl : Nat → Nat} (hDis : Dis b 44) : Met l yX7_forgetWhatCanBe (TWd yX7_forgetWhatCanBe cX7_forgetWhatCanBe 1 none) (rmk 1) (va_Pc [.ref (b 0)] (fun U => PI D K (cW K b w n lap op mu ba la en pr fr co cw cj cl rv rc pj pw ch pl lc tl) U U.heap)) (QX D K (fun u : Unit => none) (fun u => (cW K b w n lap op mu ba la en pr false co cw cj 0 rv rc pj pw ch 0 lc tl)) (fun u => True) (adA b 44)) 0 0 (adA b 44) := by
  refine mt_of (by decide +kernel) (Nat.le_of_ble_eq_true rfl) ?_
  intro p e s m below meth c S hr hlk hI ls hl
  have S : CallFix p m c cX7_forgetWhatCanBe 1 s ([.ref (b 0)] : List Value).toArray lw_tb RX7 := S
  have hl : lv_has ls 1 [(0, .ref (b 0))] := hl
  have hS : va_S (adA b 44) s.heap s.heap [] := va_S.rf
  refine lv_aload_n S.1 S.2.1 dX7_forgetWhatCanBe_0 rfl (lv_at hl 0 rfl) ?_
  refine g7 S hI 0 rfl 1 (by decide) tw_237 rfl dX7_forgetWhatCanBe_1 ?_
  refine kX4_forget S hI hS hDis tw_260 (rok (by decide)) hl.1 (Nat.le_of_ble_eq_true rfl) dX7_forgetWhatCanBe_4 (fun u1 H locs hu1 hI hS _ _ => ?_)
  refine lv_aload_n S.1 S.2.1 dX7_forgetWhatCanBe_7 rfl (lv_at hl 0 rfl) ?_
  refine g7 S hI 0 rfl 2 (by decide) tw_238 rfl dX7_forgetWhatCanBe_8 ?_
  refine kX1_forget S hI hS hDis tw_264 (rok (by decide)) hl.1 (Nat.le_of_ble_eq_true rfl) dX7_forgetWhatCanBe_11 (fun u2 H locs hu2 hI hS _ _ => ?_)
  refine lv_aload_n S.1 S.2.1 dX7_forgetWhatCanBe_14 rfl (lv_at hl 0 rfl) ?_
  refine g7 S hI 0 rfl 3 (by decide) tw_239 rfl dX7_forgetWhatCanBe_15 ?_
  refine kX3_forget S hI hS hDis tw_268 (rok (by decide)) hl.1 (Nat.le_of_ble_eq_true rfl) dX7_forgetWhatCanBe_18 (fun u3 H locs hu3 hI hS _ _ => ?_)
  exact rw_v S hr hlk () rfl trivial hI hS dX7_forgetWhatCanBe_21
theorem kX7_forgetWhatCanBe {p : Program} {l : Launch} {e : Env} {R : Room} {s : State} {m : MethodId} {args : Array Value} {below : List Frame} {meth : Method} {c : Code} {H H0 : Heap} {locs : List Loc} {cells slots : Nat} {Q : State → Prop} {cc : ByteArray} {nL index pc : Nat} {own : String} {ls : Array Slot} {rest : List Value} {D : va_G} {K : Nat → ClassId} {b : Nat → Nat} {w n lap : Nat} {op mu ba la en : Nat → Nat} {pr : Nat → Option Nat} {fr : Bool} {co : Nat → Nat → Nat} {cw cj : Nat → Int64} {cl : Nat} {rv : Int64} {rc : Nat} {pj : Nat → Nat → Nat} {pw ch : Nat → Nat} {pl lc : Nat} {tl : Nat → Nat} (S : CallFix p m c cc nL s args lw_tb own) (hI : PI D K (cW K b w n lap op mu ba la en pr fr co cw cj cl rv rc pj pw ch pl lc tl) s H) (hS : va_S (adA b 44) H0 H locs) (hDis : Dis b 44) (hlink : Cond.methodLink own index yX7_forgetWhatCanBe ∈ lw_tb) (hR : RO 1 R cells slots) (hsz : ls.size = nL) (hW : (rest.map fun v => v.category).sum ≤ 8) (hdg : decode cc pc = .ok (.invokevirtual index, 3)) (kk : ∀ (u : Unit) (H1 : Heap) (locs1 : List Loc), (True) → PI D K (cW K b w n lap op mu ba la en pr false co cw cj 0 rv rc pj pw ch 0 lc tl) s H1 → va_S (adA b 44) H0 H1 locs1 → H.size ≤ H1.size → (∀ q : Nat, q < H.size → ¬ (adA b 44) q → H1[q]? = H[q]?) → W p l e R s m args below meth c H1 locs1 cells slots Q (F0 m (pc + 3) ls (rest))) : W p l e R s m args below meth c H locs cells slots Q (F0 m pc ls (.ref (b 0) :: rest)) :=
  kVX (As := []) (b := b 0) S (mX7_forgetWhatCanBe l hDis) hlink tw_258 tw_0 tw_42 tw_259 (by show _ ∧ _ ∧ _ = some 0; decide +kernel) (by decide) hR blP (piU hI) (va_recv hI.2 hI.1 (ci := 7) (q0 := 0) rfl rfl) hS (fun _ h => h) hsz rfl hW hdg kk

set_option maxHeartbeats 4000000 in
set_option maxRecDepth 100000 in
theorem mX7_tallyLaid (l : Launch) {D : va_G} {K : Nat → ClassId} {b : Nat → Nat} {w n lap : Nat} {op mu ba la en : Nat → Nat} {pr : Nat → Option Nat} {fr : Bool} {co : Nat → Nat → Nat} {cw cj : Nat → Int64} {cl : Nat} {rv : Int64} {rc : Nat} {pj : Nat → Nat → Nat} {pw ch : Nat → Nat} {pl lc : Nat} {tl : Nat → Nat} (hDis : Dis b 44) (hG : GOK w n lap op mu ba la en pr) (ht : ∀ q, tl q ≤ 1000) : Met l yX7_tallyLaid (TWd yX7_tallyLaid cX7_tallyLaid 3 none) (rmk 3) (va_Pc [.ref (b 0)] (fun U => PI D K (cW K b w n lap op mu ba la en pr fr co cw cj cl rv rc pj pw ch pl lc tl) U U.heap)) (QX D K (fun u : Unit => none) (fun u => (cW K b w n lap op mu ba la en pr fr co cw cj cl rv rc pj pw ch pl lc (tyS tl op la w n))) (fun u => True) (adA b 44)) 0 0 (adA b 44) := by
  refine mt_of (by decide +kernel) (Nat.le_of_ble_eq_true rfl) ?_
  intro p e s m below meth c S hr hlk hI ls hl
  have S : CallFix p m c cX7_tallyLaid 3 s ([.ref (b 0)] : List Value).toArray lw_tb RX7 := S
  have hl : lv_has ls 3 [(0, .ref (b 0))] := hl
  have hS : va_S (adA b 44) s.heap s.heap [] := va_S.rf
  obtain ⟨gw1, gw2, gn, gl1, gl2, gop, gmu, gba, gla, gen, gpr, gop2, gmu2, gba2, gla2, gme, gbe, gle, gee⟩ := id hG
  refine lv_aload_n S.1 S.2.1 dX7_tallyLaid_0 rfl (lv_at hl 0 rfl) ?_
  refine g7 S hI 0 rfl 4 (by decide) tw_240 rfl dX7_tallyLaid_1 ?_
  refine kX5_clear S hI hS hDis hG tw_333 (rok (by decide)) hl.1 (Nat.le_of_ble_eq_true rfl) dX7_tallyLaid_4 (fun u1 H locs hu1 hI hS _ _ => ?_)
  rw [tyS_0 (op := op) (jf := la) (w := w)] at hI
  refine lv_iconst (v := nI 0) S.1 S.2.1 dX7_tallyLaid_7 (by decide) ?_
  refine lv_istore_n (lv' := [(1, .int (nI 0)), (0, .ref (b 0))]) S.1 S.2.1 dX7_tallyLaid_8 rfl hl (by decide) rfl (fun ls hl => ?_)
  have L9 : ∀ (f9 : Nat) (k : Nat) (H : Heap) (locs : List Loc), (k ≤ n) → (PI D K (cW K b w n lap op mu ba la en pr fr co cw cj cl rv rc pj pw ch pl lc (tyS tl op la w k)) s H) → (va_S (adA b 44) s.heap H locs) → n - k < f9 → ∀ (ls : Array Slot), lv_has ls 3 [(0, .ref (b 0)), (1, .int (nI k))] → W p l e (rmk 3) s m ([.ref (b 0)] : List Value).toArray below meth c H locs 0 0 (MQ below (QX D K (fun u : Unit => none) (fun u => (cW K b w n lap op mu ba la en pr fr co cw cj cl rv rc pj pw ch pl lc (tyS tl op la w n))) (fun u => True) (adA b 44)) ([.ref (b 0)] : List Value).toArray s 0 0 (adA b 44)) (F0 m 9 ls []) := by
    intro f9
    induction f9 with
    | zero =>
      intro k H locs i1 hI hS hm
      exact absurd hm (Nat.not_lt_zero _)
    | succ f9 ih9 =>
      intro k H locs i1 hI hS hm9 ls hl
      refine lv_iload_n S.1 S.2.1 dX7_tallyLaid_9 rfl (lv_at hl 1 rfl) ?_
      refine lv_aload_n S.1 S.2.1 dX7_tallyLaid_10 rfl (lv_at hl 0 rfl) ?_
      refine g7 S hI 0 rfl 0 (by decide) tw_236 rfl dX7_tallyLaid_11 ?_
      refine g6 S hI 1 rfl 4 (by decide) tw_129 rfl dX7_tallyLaid_14 ?_
      refine ly_cmge (tgt := 51) S (nI_le1 (by omega) (by omega)) (nI_le2 (by omega) (by omega)) dX7_tallyLaid_17 (by decide) (fun h2 => ?_) (fun h2 => ?_)
      · skip
        have ek : k = n := by omega
        rw [ek] at hI
        exact rw_v S hr hlk () rfl trivial hI hS dX7_tallyLaid_51
      · skip
        refine lv_aload_n S.1 S.2.1 dX7_tallyLaid_20 rfl (lv_at hl 0 rfl) ?_
        refine g7 S hI 0 rfl 0 (by decide) tw_236 rfl dX7_tallyLaid_21 ?_
        refine lv_iload_n S.1 S.2.1 dX7_tallyLaid_24 rfl (lv_at hl 1 rfl) ?_
        refine kX6_at_c S hI (by omega) (by omega) tw_276 (rok (by decide)) hl.1 (Nat.le_of_ble_eq_true rfl) dX7_tallyLaid_25 ?_
        refine lv_astore_n (lv' := [(2, .ref (b (19 + k))), (0, .ref (b 0)), (1, .int (nI k))]) S.1 S.2.1 dX7_tallyLaid_28 rfl hl (by decide) rfl (fun ls hl => ?_)
        refine lv_aload_n S.1 S.2.1 dX7_tallyLaid_29 rfl (lv_at hl 1 rfl) ?_
        refine g7 S hI 0 rfl 0 (by decide) tw_236 rfl dX7_tallyLaid_30 ?_
        refine lv_aload_n S.1 S.2.1 dX7_tallyLaid_33 rfl (lv_at hl 0 rfl) ?_
        refine lv_aload_n S.1 S.2.1 dX7_tallyLaid_34 rfl (lv_at hl 0 rfl) ?_
        refine g2 S hI (19 + k) (cw_cr (by omega)) 3 (by decide) tw_111 rfl dX7_tallyLaid_35 ?_
        refine ly_top (z := (nI (la k))) (by rw [gzl (f := la) (by omega)]) ?_
        refine lv_aload_n S.1 S.2.1 dX7_tallyLaid_38 rfl (lv_at hl 1 rfl) ?_
        refine g7 S hI 0 rfl 4 (by decide) tw_240 rfl dX7_tallyLaid_39 ?_
        have o1 := gla k
        refine kX6_addPieces S hI hS hDis hG (by first | omega | exact bwc_lt (by omega)) (by omega) (fun q => Nat.le_trans (tyS_le gw2 (by omega) ht q) (by omega)) tw_340 (rok (by decide)) hl.1 (Nat.le_of_ble_eq_true rfl) dX7_tallyLaid_42 (fun u3 H locs hu3 hI hS _ _ => ?_)
        rw [gzl (f := op) (by omega), tyS_s] at hI
        refine lv_iinc (v := nI (k + 1)) (lv' := [(1, .int (nI (k + 1))), (2, .ref (b (19 + k))), (0, .ref (b 0))]) S.1 S.2.1 dX7_tallyLaid_45 hl (k := 2) rfl (nJ_in _ _) (by decide) rfl (fun ls hl => ?_)
        refine lv_goto (tgt := 9) S.1 S.2.1 dX7_tallyLaid_48 (by decide) ?_
        exact ih9 (k + 1) _ _ (by omega) hI hS (by omega) _ (lv_sub hl [2, 0] rfl)
  exact L9 _ 0 _ _ (by omega) hI hS (Nat.lt_succ_self _) _ (lv_sub hl [1, 0] rfl)
theorem kX7_tallyLaid {p : Program} {l : Launch} {e : Env} {R : Room} {s : State} {m : MethodId} {args : Array Value} {below : List Frame} {meth : Method} {c : Code} {H H0 : Heap} {locs : List Loc} {cells slots : Nat} {Q : State → Prop} {cc : ByteArray} {nL index pc : Nat} {own : String} {ls : Array Slot} {rest : List Value} {D : va_G} {K : Nat → ClassId} {b : Nat → Nat} {w n lap : Nat} {op mu ba la en : Nat → Nat} {pr : Nat → Option Nat} {fr : Bool} {co : Nat → Nat → Nat} {cw cj : Nat → Int64} {cl : Nat} {rv : Int64} {rc : Nat} {pj : Nat → Nat → Nat} {pw ch : Nat → Nat} {pl lc : Nat} {tl : Nat → Nat} (S : CallFix p m c cc nL s args lw_tb own) (hI : PI D K (cW K b w n lap op mu ba la en pr fr co cw cj cl rv rc pj pw ch pl lc tl) s H) (hS : va_S (adA b 44) H0 H locs) (hDis : Dis b 44) (hG : GOK w n lap op mu ba la en pr) (ht : ∀ q, tl q ≤ 1000) (hlink : Cond.methodLink own index yX7_tallyLaid ∈ lw_tb) (hR : RO 3 R cells slots) (hsz : ls.size = nL) (hW : (rest.map fun v => v.category).sum ≤ 8) (hdg : decode cc pc = .ok (.invokevirtual index, 3)) (kk : ∀ (u : Unit) (H1 : Heap) (locs1 : List Loc), (True) → PI D K (cW K b w n lap op mu ba la en pr fr co cw cj cl rv rc pj pw ch pl lc (tyS tl op la w n)) s H1 → va_S (adA b 44) H0 H1 locs1 → H.size ≤ H1.size → (∀ q : Nat, q < H.size → ¬ (adA b 44) q → H1[q]? = H[q]?) → W p l e R s m args below meth c H1 locs1 cells slots Q (F0 m (pc + 3) ls (rest))) : W p l e R s m args below meth c H locs cells slots Q (F0 m pc ls (.ref (b 0) :: rest)) :=
  kVX (As := []) (b := b 0) S (mX7_tallyLaid l hDis hG ht) hlink tw_551 tw_13 tw_42 tw_552 (by show _ ∧ _ ∧ _ = some 0; decide +kernel) (by decide) hR blP (piU hI) (va_recv hI.2 hI.1 (ci := 7) (q0 := 0) rfl rfl) hS (fun _ h => h) hsz rfl hW hdg kk

set_option maxHeartbeats 4000000 in
set_option maxRecDepth 100000 in
theorem mX7_spansOf (l : Launch) {D : va_G} {K : Nat → ClassId} {b : Nat → Nat} {w n lap : Nat} {op mu ba la en : Nat → Nat} {pr : Nat → Option Nat} {fr : Bool} {co : Nat → Nat → Nat} {cw cj : Nat → Int64} {cl : Nat} {rv : Int64} {rc : Nat} {pj : Nat → Nat → Nat} {pw ch : Nat → Nat} {pl lc : Nat} {tl : Nat → Nat} {ci : Nat} (hDis : Dis b 44) (hG : GOK w n lap op mu ba la en pr) (hc : ci < n) (ht : ∀ q, tl q ≤ 1000) : Met l yX7_spansOf (TWd yX7_spansOf cX7_spansOf 2 (some .int)) (rmk 3) (va_Pc [.ref (b 0), .ref (b (19 + ci))] (fun U => PI D K (cW K b w n lap op mu ba la en pr fr co cw cj cl rv rc pj pw ch pl lc tl) U U.heap)) (QX D K (fun u : Nat → Nat => some (.int (nI (sumN (spT (op ci)) w)))) (fun u => (cW K b w n lap op mu ba la en pr fr co cw cj cl rv rc pj pw ch pl lc u)) (fun u => ∀ q, u q ≤ 1000) (adA b 44)) 0 0 (adA b 44) := by
  refine mt_of (by decide +kernel) (Nat.le_of_ble_eq_true rfl) ?_
  intro p e s m below meth c S hr hlk hI ls hl
  have S : CallFix p m c cX7_spansOf 2 s ([.ref (b 0), .ref (b (19 + ci))] : List Value).toArray lw_tb RX7 := S
  have hl : lv_has ls 2 [(0, .ref (b 0)), (1, .ref (b (19 + ci)))] := hl
  have hS : va_S (adA b 44) s.heap s.heap [] := va_S.rf
  obtain ⟨gw1, gw2, gn, gl1, gl2, gop, gmu, gba, gla, gen, gpr, gop2, gmu2, gba2, gla2, gme, gbe, gle, gee⟩ := id hG
  refine lv_aload_n S.1 S.2.1 dX7_spansOf_0 rfl (lv_at hl 0 rfl) ?_
  refine g7 S hI 0 rfl 4 (by decide) tw_240 rfl dX7_spansOf_1 ?_
  refine kX5_clear S hI hS hDis hG tw_333 (rok (by decide)) hl.1 (Nat.le_of_ble_eq_true rfl) dX7_spansOf_4 (fun u1 H locs hu1 hI hS _ _ => ?_)
  refine lv_aload_n S.1 S.2.1 dX7_spansOf_7 rfl (lv_at hl 0 rfl) ?_
  refine g7 S hI 0 rfl 0 (by decide) tw_236 rfl dX7_spansOf_8 ?_
  refine lv_aload_n S.1 S.2.1 dX7_spansOf_11 rfl (lv_at hl 1 rfl) ?_
  refine lv_iconst (v := nI 0) S.1 S.2.1 dX7_spansOf_12 (by decide) ?_
  refine lv_aload_n S.1 S.2.1 dX7_spansOf_13 rfl (lv_at hl 0 rfl) ?_
  refine g7 S hI 0 rfl 4 (by decide) tw_240 rfl dX7_spansOf_14 ?_
  refine kX6_addPieces S hI hS hDis hG (by first | omega | exact bwc_lt (by omega)) (by omega) (fun q => Nat.le_trans (ly_le ht q) (by omega)) tw_340 (rok (by decide)) hl.1 (Nat.le_of_ble_eq_true rfl) dX7_spansOf_17 (fun u2 H locs hu2 hI hS _ _ => ?_)
  rw [gzl (f := op) (by omega)] at hI
  have e1 : ∀ q, q ≤ 10 → (tlP w (op ci) 0 (lyF tl (fun _ => 0) 11) w) q = pcF w (op ci) 0 q := fun q hq => sp_e hq
  have e2 : ∀ q, (tlP w (op ci) 0 (lyF tl (fun _ => 0) 11) w) q ≤ 1000 := sp_le gw2 ht
  refine lv_aload_n S.1 S.2.1 dX7_spansOf_20 rfl (lv_at hl 0 rfl) ?_
  refine g7 S hI 0 rfl 4 (by decide) tw_240 rfl dX7_spansOf_21 ?_
  refine kX5_total S hI hG tw_360 (rok (by decide)) hl.1 (Nat.le_of_ble_eq_true rfl) dX7_spansOf_24 ?_
  exact rw_i S hr hlk (tlP w (op ci) 0 (lyF tl (fun _ => 0) 11) w) (by rw [M_span gw2 e1]) e2 hI hS dX7_spansOf_27
theorem kX7_spansOf {p : Program} {l : Launch} {e : Env} {R : Room} {s : State} {m : MethodId} {args : Array Value} {below : List Frame} {meth : Method} {c : Code} {H H0 : Heap} {locs : List Loc} {cells slots : Nat} {Q : State → Prop} {cc : ByteArray} {nL index pc : Nat} {own : String} {ls : Array Slot} {rest : List Value} {D : va_G} {K : Nat → ClassId} {b : Nat → Nat} {w n lap : Nat} {op mu ba la en : Nat → Nat} {pr : Nat → Option Nat} {fr : Bool} {co : Nat → Nat → Nat} {cw cj : Nat → Int64} {cl : Nat} {rv : Int64} {rc : Nat} {pj : Nat → Nat → Nat} {pw ch : Nat → Nat} {pl lc : Nat} {tl : Nat → Nat} {ci : Nat} (S : CallFix p m c cc nL s args lw_tb own) (hI : PI D K (cW K b w n lap op mu ba la en pr fr co cw cj cl rv rc pj pw ch pl lc tl) s H) (hS : va_S (adA b 44) H0 H locs) (hDis : Dis b 44) (hG : GOK w n lap op mu ba la en pr) (hc : ci < n) (ht : ∀ q, tl q ≤ 1000) (hlink : Cond.methodLink own index yX7_spansOf ∈ lw_tb) (hR : RO 3 R cells slots) (hsz : ls.size = nL) (hW : (rest.map fun v => v.category).sum ≤ 8) (hdg : decode cc pc = .ok (.invokevirtual index, 3)) (kk : ∀ (u : Nat → Nat) (H1 : Heap) (locs1 : List Loc), (∀ q, u q ≤ 1000) → PI D K (cW K b w n lap op mu ba la en pr fr co cw cj cl rv rc pj pw ch pl lc u) s H1 → va_S (adA b 44) H0 H1 locs1 → H.size ≤ H1.size → (∀ q : Nat, q < H.size → ¬ (adA b 44) q → H1[q]? = H[q]?) → W p l e R s m args below meth c H1 locs1 cells slots Q (F0 m (pc + 3) ls ((.int (nI (sumN (spT (op ci)) w))) :: rest))) : W p l e R s m args below meth c H locs cells slots Q (F0 m pc ls (.ref (b (19 + ci)) :: .ref (b 0) :: rest)) :=
  kVX (As := [.ref (b (19 + ci))]) (b := b 0) S (mX7_spansOf l hDis hG hc ht) hlink tw_331 tw_1 tw_42 tw_332 (by show _ ∧ _ ∧ _ = some 1; decide +kernel) (by decide) hR blP (piU hI) (va_recv hI.2 hI.1 (ci := 7) (q0 := 0) rfl rfl) hS (fun _ h => h) hsz rfl hW hdg kk

set_option maxHeartbeats 4000000 in
set_option maxRecDepth 100000 in
theorem mX7_openCells (l : Launch) {D : va_G} {K : Nat → ClassId} {b : Nat → Nat} {w n lap : Nat} {op mu ba la en : Nat → Nat} {pr : Nat → Option Nat} {fr : Bool} {co : Nat → Nat → Nat} {cw cj : Nat → Int64} {cl : Nat} {rv : Int64} {rc : Nat} {pj : Nat → Nat → Nat} {pw ch : Nat → Nat} {pl lc : Nat} {tl : Nat → Nat} (hG : GOK w n lap op mu ba la en pr) : Met l yX7_openCells (TWd yX7_openCells cX7_openCells 3 (some .int)) (rmk 1) (va_Pc [.ref (b 0)] (fun U => PI D K (cW K b w n lap op mu ba la en pr fr co cw cj cl rv rc pj pw ch pl lc tl) U U.heap)) (QcRead (nI (sumN (fun q => popG 31 (op q)) n))) 0 0 (fun _ => False) := by
  refine mt_of (by decide +kernel) (Nat.le_of_ble_eq_true rfl) ?_
  intro p e s m below meth c S hr hlk hI ls hl
  have S : CallFix p m c cX7_openCells 3 s ([.ref (b 0)] : List Value).toArray lw_tb RX7 := S
  have hl : lv_has ls 3 [(0, .ref (b 0))] := hl
  obtain ⟨gw1, gw2, gn, gl1, gl2, gop, gmu, gba, gla, gen, gpr, gop2, gmu2, gba2, gla2, gme, gbe, gle, gee⟩ := id hG
  refine lv_iconst (v := nI 0) S.1 S.2.1 dX7_openCells_0 (by decide) ?_
  refine ly_top (z := (nI (sumN (fun q => popG 31 (op q)) 0))) rfl ?_
  refine lv_istore_n (lv' := [(1, .int (nI (sumN (fun q => popG 31 (op q)) 0))), (0, .ref (b 0))]) S.1 S.2.1 dX7_openCells_1 rfl hl (by decide) rfl (fun ls hl => ?_)
  refine lv_iconst (v := nI 0) S.1 S.2.1 dX7_openCells_2 (by decide) ?_
  refine lv_istore_n (lv' := [(2, .int (nI 0)), (1, .int (nI (sumN (fun q => popG 31 (op q)) 0))), (0, .ref (b 0))]) S.1 S.2.1 dX7_openCells_3 rfl hl (by decide) rfl (fun ls hl => ?_)
  have L4 : ∀ (f4 : Nat) (k : Nat), (k ≤ n) → n - k < f4 → ∀ (ls : Array Slot), lv_has ls 3 [(0, .ref (b 0)), (1, .int (nI (sumN (fun q => popG 31 (op q)) k))), (2, .int (nI k))] → W p l e (rmk 1) s m ([.ref (b 0)] : List Value).toArray below meth c s.heap [] 0 0 (MQ below (QcRead (nI (sumN (fun q => popG 31 (op q)) n))) ([.ref (b 0)] : List Value).toArray s 0 0 (fun _ => False)) (F0 m 4 ls []) := by
    intro f4
    induction f4 with
    | zero =>
      intro k i2 hm
      exact absurd hm (Nat.not_lt_zero _)
    | succ f4 ih4 =>
      intro k i2 hm4 ls hl
      have o1 := gop k
      refine lv_iload_n S.1 S.2.1 dX7_openCells_4 rfl (lv_at hl 2 rfl) ?_
      refine lv_aload_n S.1 S.2.1 dX7_openCells_5 rfl (lv_at hl 0 rfl) ?_
      refine g7 S hI 0 rfl 0 (by decide) tw_236 rfl dX7_openCells_6 ?_
      refine g6 S hI 1 rfl 4 (by decide) tw_129 rfl dX7_openCells_9 ?_
      refine ly_cmge (tgt := 38) S (nI_le1 (by omega) (by omega)) (nI_le2 (by omega) (by omega)) dX7_openCells_12 (by decide) (fun h1 => ?_) (fun h1 => ?_)
      · skip
        refine lv_iload_n S.1 S.2.1 dX7_openCells_38 rfl (lv_at hl 1 rfl) ?_
        exact rt_i S hr hlk (by rw [show k = n by omega]) dX7_openCells_39
      · skip
        refine lv_iload_n S.1 S.2.1 dX7_openCells_15 rfl (lv_at hl 1 rfl) ?_
        refine lv_aload_n S.1 S.2.1 dX7_openCells_16 rfl (lv_at hl 0 rfl) ?_
        refine g7 S hI 0 rfl 0 (by decide) tw_236 rfl dX7_openCells_17 ?_
        refine lv_iload_n S.1 S.2.1 dX7_openCells_20 rfl (lv_at hl 2 rfl) ?_
        refine kX6_at_c S hI (by omega) (by omega) tw_276 (rok (by decide)) hl.1 (Nat.le_of_ble_eq_true rfl) dX7_openCells_21 ?_
        refine g2 S hI (19 + k) (cw_cr (by omega)) 0 (by decide) tw_103 rfl dX7_openCells_24 ?_
        refine ly_top (z := (nI (op k))) (by rw [gzl (f := op) (by omega)]) ?_
        refine kJ6_bitCount_0f7a4 S (by omega) tw_591 (rok (by decide)) hl.1 (Nat.le_of_ble_eq_true rfl) dX7_openCells_27 ?_
        have b2 : popG 31 (op k) ≤ 31 := popG_le _ _
        refine lv_iadd S.1 S.2.1 dX7_openCells_30 ?_
        refine ly_top (z := nI ((sumN (fun q => popG 31 (op q)) k) + (popG 31 (op k)))) (nI_add _ _) ?_
        refine ly_top (z := (nI (sumN (fun q => popG 31 (op q)) (k + 1)))) rfl ?_
        refine lv_istore_n (lv' := [(1, .int (nI (sumN (fun q => popG 31 (op q)) (k + 1)))), (0, .ref (b 0)), (2, .int (nI k))]) S.1 S.2.1 dX7_openCells_31 rfl hl (by decide) rfl (fun ls hl => ?_)
        refine lv_iinc (v := nI (k + 1)) (lv' := [(2, .int (nI (k + 1))), (1, .int (nI (sumN (fun q => popG 31 (op q)) (k + 1)))), (0, .ref (b 0))]) S.1 S.2.1 dX7_openCells_32 hl (k := 2) rfl (nJ_in _ _) (by decide) rfl (fun ls hl => ?_)
        refine lv_goto (tgt := 4) S.1 S.2.1 dX7_openCells_35 (by decide) ?_
        exact ih4 (k + 1) (by omega) (by omega) _ (lv_sub hl [2, 1, 0] rfl)
  exact L4 _ 0 (by omega) (Nat.lt_succ_self _) _ (lv_sub hl [2, 1, 0] rfl)
theorem kX7_openCells {p : Program} {l : Launch} {e : Env} {R : Room} {s : State} {m : MethodId} {args : Array Value} {below : List Frame} {meth : Method} {c : Code} {H : Heap} {locs : List Loc} {cells slots : Nat} {Q : State → Prop} {cc : ByteArray} {nL index pc : Nat} {own : String} {ls : Array Slot} {rest : List Value} {D : va_G} {K : Nat → ClassId} {b : Nat → Nat} {w n lap : Nat} {op mu ba la en : Nat → Nat} {pr : Nat → Option Nat} {fr : Bool} {co : Nat → Nat → Nat} {cw cj : Nat → Int64} {cl : Nat} {rv : Int64} {rc : Nat} {pj : Nat → Nat → Nat} {pw ch : Nat → Nat} {pl lc : Nat} {tl : Nat → Nat} (S : CallFix p m c cc nL s args lw_tb own) (hI : PI D K (cW K b w n lap op mu ba la en pr fr co cw cj cl rv rc pj pw ch pl lc tl) s H) (hG : GOK w n lap op mu ba la en pr) (hlink : Cond.methodLink own index yX7_openCells ∈ lw_tb) (hR : RO 1 R cells slots) (hsz : ls.size = nL) (hW : (rest.map fun v => v.category).sum ≤ 8) (hdg : decode cc pc = .ok (.invokevirtual index, 3)) (kk : W p l e R s m args below meth c H locs cells slots Q (F0 m (pc + 3) ls (.int (nI (sumN (fun q => popG 31 (op q)) n)) :: rest))) : W p l e R s m args below meth c H locs cells slots Q (F0 m pc ls (.ref (b 0) :: rest)) :=
  kV (As := []) (b := b 0) S (mX7_openCells l hG) hlink tw_589 tw_14 tw_42 tw_590 (by show _ ∧ _ ∧ _ = some 0; decide +kernel) (by decide) hR blP (piU hI) (va_recv hI.2 hI.1 (ci := 7) (q0 := 0) rfl rfl) hsz rfl hW hdg kk

set_option maxHeartbeats 4000000 in
set_option maxRecDepth 100000 in
theorem mX7_laidJoints (l : Launch) {D : va_G} {K : Nat → ClassId} {b : Nat → Nat} {w n lap : Nat} {op mu ba la en : Nat → Nat} {pr : Nat → Option Nat} {fr : Bool} {co : Nat → Nat → Nat} {cw cj : Nat → Int64} {cl : Nat} {rv : Int64} {rc : Nat} {pj : Nat → Nat → Nat} {pw ch : Nat → Nat} {pl lc : Nat} {tl : Nat → Nat} (hG : GOK w n lap op mu ba la en pr) : Met l yX7_laidJoints (TWd yX7_laidJoints cX7_laidJoints 3 (some .int)) (rmk 1) (va_Pc [.ref (b 0)] (fun U => PI D K (cW K b w n lap op mu ba la en pr fr co cw cj cl rv rc pj pw ch pl lc tl) U U.heap)) (QcRead (nI (sumN (fun q => popG 31 (la q)) n))) 0 0 (fun _ => False) := by
  refine mt_of (by decide +kernel) (Nat.le_of_ble_eq_true rfl) ?_
  intro p e s m below meth c S hr hlk hI ls hl
  have S : CallFix p m c cX7_laidJoints 3 s ([.ref (b 0)] : List Value).toArray lw_tb RX7 := S
  have hl : lv_has ls 3 [(0, .ref (b 0))] := hl
  obtain ⟨gw1, gw2, gn, gl1, gl2, gop, gmu, gba, gla, gen, gpr, gop2, gmu2, gba2, gla2, gme, gbe, gle, gee⟩ := id hG
  refine lv_iconst (v := nI 0) S.1 S.2.1 dX7_laidJoints_0 (by decide) ?_
  refine ly_top (z := (nI (sumN (fun q => popG 31 (la q)) 0))) rfl ?_
  refine lv_istore_n (lv' := [(1, .int (nI (sumN (fun q => popG 31 (la q)) 0))), (0, .ref (b 0))]) S.1 S.2.1 dX7_laidJoints_1 rfl hl (by decide) rfl (fun ls hl => ?_)
  refine lv_iconst (v := nI 0) S.1 S.2.1 dX7_laidJoints_2 (by decide) ?_
  refine lv_istore_n (lv' := [(2, .int (nI 0)), (1, .int (nI (sumN (fun q => popG 31 (la q)) 0))), (0, .ref (b 0))]) S.1 S.2.1 dX7_laidJoints_3 rfl hl (by decide) rfl (fun ls hl => ?_)
  have L4 : ∀ (f4 : Nat) (k : Nat), (k ≤ n) → n - k < f4 → ∀ (ls : Array Slot), lv_has ls 3 [(0, .ref (b 0)), (1, .int (nI (sumN (fun q => popG 31 (la q)) k))), (2, .int (nI k))] → W p l e (rmk 1) s m ([.ref (b 0)] : List Value).toArray below meth c s.heap [] 0 0 (MQ below (QcRead (nI (sumN (fun q => popG 31 (la q)) n))) ([.ref (b 0)] : List Value).toArray s 0 0 (fun _ => False)) (F0 m 4 ls []) := by
    intro f4
    induction f4 with
    | zero =>
      intro k i2 hm
      exact absurd hm (Nat.not_lt_zero _)
    | succ f4 ih4 =>
      intro k i2 hm4 ls hl
      have o1 := gla k
      refine lv_iload_n S.1 S.2.1 dX7_laidJoints_4 rfl (lv_at hl 2 rfl) ?_
      refine lv_aload_n S.1 S.2.1 dX7_laidJoints_5 rfl (lv_at hl 0 rfl) ?_
      refine g7 S hI 0 rfl 0 (by decide) tw_236 rfl dX7_laidJoints_6 ?_
      refine g6 S hI 1 rfl 4 (by decide) tw_129 rfl dX7_laidJoints_9 ?_
      refine ly_cmge (tgt := 38) S (nI_le1 (by omega) (by omega)) (nI_le2 (by omega) (by omega)) dX7_laidJoints_12 (by decide) (fun h1 => ?_) (fun h1 => ?_)
      · skip
        refine lv_iload_n S.1 S.2.1 dX7_laidJoints_38 rfl (lv_at hl 1 rfl) ?_
        exact rt_i S hr hlk (by rw [show k = n by omega]) dX7_laidJoints_39
      · skip
        refine lv_iload_n S.1 S.2.1 dX7_laidJoints_15 rfl (lv_at hl 1 rfl) ?_
        refine lv_aload_n S.1 S.2.1 dX7_laidJoints_16 rfl (lv_at hl 0 rfl) ?_
        refine g7 S hI 0 rfl 0 (by decide) tw_236 rfl dX7_laidJoints_17 ?_
        refine lv_iload_n S.1 S.2.1 dX7_laidJoints_20 rfl (lv_at hl 2 rfl) ?_
        refine kX6_at_c S hI (by omega) (by omega) tw_276 (rok (by decide)) hl.1 (Nat.le_of_ble_eq_true rfl) dX7_laidJoints_21 ?_
        refine g2 S hI (19 + k) (cw_cr (by omega)) 3 (by decide) tw_111 rfl dX7_laidJoints_24 ?_
        refine ly_top (z := (nI (la k))) (by rw [gzl (f := la) (by omega)]) ?_
        refine kJ6_bitCount_0f7a4 S (by omega) tw_591 (rok (by decide)) hl.1 (Nat.le_of_ble_eq_true rfl) dX7_laidJoints_27 ?_
        have b2 : popG 31 (la k) ≤ 31 := popG_le _ _
        refine lv_iadd S.1 S.2.1 dX7_laidJoints_30 ?_
        refine ly_top (z := nI ((sumN (fun q => popG 31 (la q)) k) + (popG 31 (la k)))) (nI_add _ _) ?_
        refine ly_top (z := (nI (sumN (fun q => popG 31 (la q)) (k + 1)))) rfl ?_
        refine lv_istore_n (lv' := [(1, .int (nI (sumN (fun q => popG 31 (la q)) (k + 1)))), (0, .ref (b 0)), (2, .int (nI k))]) S.1 S.2.1 dX7_laidJoints_31 rfl hl (by decide) rfl (fun ls hl => ?_)
        refine lv_iinc (v := nI (k + 1)) (lv' := [(2, .int (nI (k + 1))), (1, .int (nI (sumN (fun q => popG 31 (la q)) (k + 1)))), (0, .ref (b 0))]) S.1 S.2.1 dX7_laidJoints_32 hl (k := 2) rfl (nJ_in _ _) (by decide) rfl (fun ls hl => ?_)
        refine lv_goto (tgt := 4) S.1 S.2.1 dX7_laidJoints_35 (by decide) ?_
        exact ih4 (k + 1) (by omega) (by omega) _ (lv_sub hl [2, 1, 0] rfl)
  exact L4 _ 0 (by omega) (Nat.lt_succ_self _) _ (lv_sub hl [2, 1, 0] rfl)
theorem kX7_laidJoints {p : Program} {l : Launch} {e : Env} {R : Room} {s : State} {m : MethodId} {args : Array Value} {below : List Frame} {meth : Method} {c : Code} {H : Heap} {locs : List Loc} {cells slots : Nat} {Q : State → Prop} {cc : ByteArray} {nL index pc : Nat} {own : String} {ls : Array Slot} {rest : List Value} {D : va_G} {K : Nat → ClassId} {b : Nat → Nat} {w n lap : Nat} {op mu ba la en : Nat → Nat} {pr : Nat → Option Nat} {fr : Bool} {co : Nat → Nat → Nat} {cw cj : Nat → Int64} {cl : Nat} {rv : Int64} {rc : Nat} {pj : Nat → Nat → Nat} {pw ch : Nat → Nat} {pl lc : Nat} {tl : Nat → Nat} (S : CallFix p m c cc nL s args lw_tb own) (hI : PI D K (cW K b w n lap op mu ba la en pr fr co cw cj cl rv rc pj pw ch pl lc tl) s H) (hG : GOK w n lap op mu ba la en pr) (hlink : Cond.methodLink own index yX7_laidJoints ∈ lw_tb) (hR : RO 1 R cells slots) (hsz : ls.size = nL) (hW : (rest.map fun v => v.category).sum ≤ 8) (hdg : decode cc pc = .ok (.invokevirtual index, 3)) (kk : W p l e R s m args below meth c H locs cells slots Q (F0 m (pc + 3) ls (.int (nI (sumN (fun q => popG 31 (la q)) n)) :: rest))) : W p l e R s m args below meth c H locs cells slots Q (F0 m pc ls (.ref (b 0) :: rest)) :=
  kV (As := []) (b := b 0) S (mX7_laidJoints l hG) hlink tw_599 tw_15 tw_42 tw_600 (by show _ ∧ _ ∧ _ = some 0; decide +kernel) (by decide) hR blP (piU hI) (va_recv hI.2 hI.1 (ci := 7) (q0 := 0) rfl rfl) hsz rfl hW hdg kk
