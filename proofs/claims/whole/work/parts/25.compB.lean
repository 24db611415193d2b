set_option maxHeartbeats 4000000 in
set_option maxRecDepth 100000 in
theorem mJ7_fill_53178_tl (l : Launch) {D : va_G} {K : Nat → ClassId} {b : Nat → Nat} {w n lap : Nat} {op mu ba la en : Nat → Nat} {pr : Nat → Option Nat} {fr : Bool} {co : Nat → Nat → Nat} {cw cj : Nat → Int64} {cl : Nat} {rv : Int64} {rc : Nat} {pj : Nat → Nat → Nat} {pw ch : Nat → Nat} {pl lc : Nat} {tl : Nat → Nat} (hDis : Dis b 44) : Met l yJ7_fill_53178 (TWd yJ7_fill_53178 cJ7_fill_53178 4 none) (rmk 0) (va_Pc [.ref (b 18), .int (nI 0)] (fun U => PI D K (cW K b w n lap op mu ba la en pr fr co cw cj cl rv rc pj pw ch pl lc tl) U U.heap)) (QX D K (fun u : Unit => none) (fun u => (cW K b w n lap op mu ba la en pr fr co cw cj cl rv rc pj pw ch pl lc (lyF tl (fun _ => 0) 11))) (fun u => True) (adA b 44)) 0 0 (adA b 44) := by
  refine mt_of (by decide +kernel) (Nat.le_of_ble_eq_true rfl) ?_
  intro p e s m below meth c S hr hlk hI ls hl
  have S : CallFix p m c cJ7_fill_53178 4 s ([.ref (b 18), .int (nI 0)] : List Value).toArray lw_tb RJ7 := S
  have hl : lv_has ls 4 [(0, .ref (b 18)), (1, .int (nI 0))] := hl
  have hS : va_S (adA b 44) s.heap s.heap [] := va_S.rf
  refine lv_iconst (v := nI 0) S.1 S.2.1 dJ7_fill_53178_0 (by decide) ?_
  refine lv_istore_n (lv' := [(2, .int (nI 0)), (0, .ref (b 18)), (1, .int (nI 0))]) S.1 S.2.1 dJ7_fill_53178_1 rfl hl (by decide) rfl (fun ls hl => ?_)
  refine lv_aload_n S.1 S.2.1 dJ7_fill_53178_2 rfl (lv_at hl 1 rfl) ?_
  refine ly_alen (t0 := 0) (v := nI 11) S hI 18 rfl rfl rfl dJ7_fill_53178_3 ?_
  rw [← lyF_0 (la := tl) (f := fun _ => 0)] at hI
  refine lv_istore_n (lv' := [(3, .int (nI 11)), (2, .int (nI 0)), (0, .ref (b 18)), (1, .int (nI 0))]) S.1 S.2.1 dJ7_fill_53178_4 rfl hl (by decide) rfl (fun ls hl => ?_)
  have L5 : ∀ (f5 : Nat) (k : Nat) (H : Heap) (locs : List Loc), (k ≤ 11) → (PI D K (cW K b w n lap op mu ba la en pr fr co cw cj cl rv rc pj pw ch pl lc (lyF tl (fun _ => 0) k)) s H) → (va_S (adA b 44) s.heap H locs) → 11 - k < f5 → ∀ (ls : Array Slot), lv_has ls 4 [(0, .ref (b 18)), (1, .int (nI 0)), (2, .int (nI k)), (3, .int (nI 11))] → W p l e (rmk 0) s m ([.ref (b 18), .int (nI 0)] : List Value).toArray below meth c H locs 0 0 (MQ below (QX D K (fun u : Unit => none) (fun u => (cW K b w n lap op mu ba la en pr fr co cw cj cl rv rc pj pw ch pl lc (lyF tl (fun _ => 0) 11))) (fun u => True) (adA b 44)) ([.ref (b 18), .int (nI 0)] : List Value).toArray s 0 0 (adA b 44)) (F0 m 5 ls []) := by
    intro f5
    induction f5 with
    | zero =>
      intro k H locs i1 hI hS hm
      exact absurd hm (Nat.not_lt_zero _)
    | succ f5 ih5 =>
      intro k H locs i1 hI hS hm5 ls hl
      refine lv_iload_n S.1 S.2.1 dJ7_fill_53178_5 rfl (lv_at hl 2 rfl) ?_
      refine lv_iload_n S.1 S.2.1 dJ7_fill_53178_6 rfl (lv_at hl 3 rfl) ?_
      refine ly_cmge (tgt := 20) S (nI_le1 (by omega) (by omega)) (nI_le2 (by omega) (by omega)) dJ7_fill_53178_7 (by decide) (fun h1 => ?_) (fun h1 => ?_)
      · skip
        have ek : k = 11 := by omega
        rw [ek] at hI
        exact rw_v S hr hlk () rfl trivial hI hS dJ7_fill_53178_20
      · skip
        refine lv_aload_n S.1 S.2.1 dJ7_fill_53178_10 rfl (lv_at hl 0 rfl) ?_
        refine lv_iload_n S.1 S.2.1 dJ7_fill_53178_11 rfl (lv_at hl 2 rfl) ?_
        refine lv_iload_n S.1 S.2.1 dJ7_fill_53178_12 rfl (lv_at hl 1 rfl) ?_
        refine ly_iast (ws' := (cW K b w n lap op mu ba la en pr fr co cw cj cl rv rc pj pw ch pl lc (va_up (lyF tl (fun _ => 0) k) k 0))) S hI (cD hDis) hS 18 rfl (by omega) (by decide) cs_tl dJ7_fill_53178_13 (fun H locs hI hS => ?_)
        rw [lyF_s (f := fun _ => 0)] at hI
        refine lv_iinc (v := nI (k + 1)) (lv' := [(2, .int (nI (k + 1))), (0, .ref (b 18)), (1, .int (nI 0)), (3, .int (nI 11))]) S.1 S.2.1 dJ7_fill_53178_14 hl (k := 2) rfl (nJ_in _ _) (by decide) rfl (fun ls hl => ?_)
        refine lv_goto (tgt := 5) S.1 S.2.1 dJ7_fill_53178_17 (by decide) ?_
        exact ih5 (k + 1) _ _ (by omega) hI hS (by omega) _ (lv_sub hl [1, 2, 0, 3] rfl)
  exact L5 _ 0 _ _ (by omega) hI hS (Nat.lt_succ_self _) _ (lv_sub hl [2, 3, 1, 0] rfl)
theorem kJ7_fill_53178_tl {p : Program} {l : Launch} {e : Env} {R : Room} {s : State} {m : MethodId} {args : Array Value} {below : List Frame} {meth : Method} {c : Code} {H H0 : Heap} {locs : List Loc} {cells slots : Nat} {Q : State → Prop} {cc : ByteArray} {nL index pc : Nat} {own : String} {ls : Array Slot} {rest : List Value} {D : va_G} {K : Nat → ClassId} {b : Nat → Nat} {w n lap : Nat} {op mu ba la en : Nat → Nat} {pr : Nat → Option Nat} {fr : Bool} {co : Nat → Nat → Nat} {cw cj : Nat → Int64} {cl : Nat} {rv : Int64} {rc : Nat} {pj : Nat → Nat → Nat} {pw ch : Nat → Nat} {pl lc : Nat} {tl : Nat → Nat} (S : CallFix p m c cc nL s args lw_tb own) (hI : PI D K (cW K b w n lap op mu ba la en pr fr co cw cj cl rv rc pj pw ch pl lc tl) s H) (hS : va_S (adA b 44) H0 H locs) (hDis : Dis b 44) (hlink : Cond.methodLink own index yJ7_fill_53178 ∈ lw_tb) (hR : RO 0 R cells slots) (hsz : ls.size = nL) (hW : (rest.map fun v => v.category).sum ≤ 8) (hdg : decode cc pc = .ok (.invokestatic index, 3)) (kk : ∀ (u : Unit) (H1 : Heap) (locs1 : List Loc), (True) → PI D K (cW K b w n lap op mu ba la en pr fr co cw cj cl rv rc pj pw ch pl lc (lyF tl (fun _ => 0) 11)) s H1 → va_S (adA b 44) H0 H1 locs1 → H.size ≤ H1.size → (∀ q : Nat, q < H.size → ¬ (adA b 44) q → H1[q]? = H[q]?) → W p l e R s m args below meth c H1 locs1 cells slots Q (F0 m (pc + 3) ls (rest))) : W p l e R s m args below meth c H locs cells slots Q (F0 m pc ls (.int (nI 0) :: .ref (b 18) :: rest)) :=
  kSX (As := [.ref (b 18), .int (nI 0)]) S (mJ7_fill_53178_tl l hDis) hlink tw_338 tw_51 tw_339 (by show _ ∧ _ ∧ _ = some 2; decide +kernel) (by decide) hR blP (piU hI) hS (fun _ h => h) hsz rfl hW hdg kk

set_option maxHeartbeats 4000000 in
set_option maxRecDepth 100000 in
theorem mJ7_fill_53178_pw (l : Launch) {D : va_G} {K : Nat → ClassId} {b : Nat → Nat} {w n lap : Nat} {op mu ba la en : Nat → Nat} {pr : Nat → Option Nat} {fr : Bool} {co : Nat → Nat → Nat} {cw cj : Nat → Int64} {cl : Nat} {rv : Int64} {rc : Nat} {pj : Nat → Nat → Nat} {pw ch : Nat → Nat} {pl lc : Nat} {tl : Nat → Nat} (hDis : Dis b 44) : Met l yJ7_fill_53178 (TWd yJ7_fill_53178 cJ7_fill_53178 4 none) (rmk 0) (va_Pc [.ref (b 15), .int (nI 0)] (fun U => PI D K (cW K b w n lap op mu ba la en pr fr co cw cj cl rv rc pj pw ch pl lc tl) U U.heap)) (QX D K (fun u : Unit => none) (fun u => (cW K b w n lap op mu ba la en pr fr co cw cj cl rv rc pj (lyF pw (fun _ => 0) 512) ch pl lc tl)) (fun u => True) (adA b 44)) 0 0 (adA b 44) := by
  refine mt_of (by decide +kernel) (Nat.le_of_ble_eq_true rfl) ?_
  intro p e s m below meth c S hr hlk hI ls hl
  have S : CallFix p m c cJ7_fill_53178 4 s ([.ref (b 15), .int (nI 0)] : List Value).toArray lw_tb RJ7 := S
  have hl : lv_has ls 4 [(0, .ref (b 15)), (1, .int (nI 0))] := hl
  have hS : va_S (adA b 44) s.heap s.heap [] := va_S.rf
  refine lv_iconst (v := nI 0) S.1 S.2.1 dJ7_fill_53178_0 (by decide) ?_
  refine lv_istore_n (lv' := [(2, .int (nI 0)), (0, .ref (b 15)), (1, .int (nI 0))]) S.1 S.2.1 dJ7_fill_53178_1 rfl hl (by decide) rfl (fun ls hl => ?_)
  refine lv_aload_n S.1 S.2.1 dJ7_fill_53178_2 rfl (lv_at hl 1 rfl) ?_
  refine ly_alen (t0 := 0) (v := nI 512) S hI 15 rfl rfl rfl dJ7_fill_53178_3 ?_
  rw [← lyF_0 (la := pw) (f := fun _ => 0)] at hI
  refine lv_istore_n (lv' := [(3, .int (nI 512)), (2, .int (nI 0)), (0, .ref (b 15)), (1, .int (nI 0))]) S.1 S.2.1 dJ7_fill_53178_4 rfl hl (by decide) rfl (fun ls hl => ?_)
  have L5 : ∀ (f5 : Nat) (k : Nat) (H : Heap) (locs : List Loc), (k ≤ 512) → (PI D K (cW K b w n lap op mu ba la en pr fr co cw cj cl rv rc pj (lyF pw (fun _ => 0) k) ch pl lc tl) s H) → (va_S (adA b 44) s.heap H locs) → 512 - k < f5 → ∀ (ls : Array Slot), lv_has ls 4 [(0, .ref (b 15)), (1, .int (nI 0)), (2, .int (nI k)), (3, .int (nI 512))] → W p l e (rmk 0) s m ([.ref (b 15), .int (nI 0)] : List Value).toArray below meth c H locs 0 0 (MQ below (QX D K (fun u : Unit => none) (fun u => (cW K b w n lap op mu ba la en pr fr co cw cj cl rv rc pj (lyF pw (fun _ => 0) 512) ch pl lc tl)) (fun u => True) (adA b 44)) ([.ref (b 15), .int (nI 0)] : List Value).toArray s 0 0 (adA b 44)) (F0 m 5 ls []) := by
    intro f5
    induction f5 with
    | zero =>
      intro k H locs i1 hI hS hm
      exact absurd hm (Nat.not_lt_zero _)
    | succ f5 ih5 =>
      intro k H locs i1 hI hS hm5 ls hl
      refine lv_iload_n S.1 S.2.1 dJ7_fill_53178_5 rfl (lv_at hl 2 rfl) ?_
      refine lv_iload_n S.1 S.2.1 dJ7_fill_53178_6 rfl (lv_at hl 3 rfl) ?_
      refine ly_cmge (tgt := 20) S (nI_le1 (by omega) (by omega)) (nI_le2 (by omega) (by omega)) dJ7_fill_53178_7 (by decide) (fun h1 => ?_) (fun h1 => ?_)
      · skip
        have ek : k = 512 := by omega
        rw [ek] at hI
        exact rw_v S hr hlk () rfl trivial hI hS dJ7_fill_53178_20
      · skip
        refine lv_aload_n S.1 S.2.1 dJ7_fill_53178_10 rfl (lv_at hl 0 rfl) ?_
        refine lv_iload_n S.1 S.2.1 dJ7_fill_53178_11 rfl (lv_at hl 2 rfl) ?_
        refine lv_iload_n S.1 S.2.1 dJ7_fill_53178_12 rfl (lv_at hl 1 rfl) ?_
        refine ly_iast (ws' := (cW K b w n lap op mu ba la en pr fr co cw cj cl rv rc pj (va_up (lyF pw (fun _ => 0) k) k 0) ch pl lc tl)) S hI (cD hDis) hS 15 rfl (by omega) (by decide) cs_pw dJ7_fill_53178_13 (fun H locs hI hS => ?_)
        rw [lyF_s (f := fun _ => 0)] at hI
        refine lv_iinc (v := nI (k + 1)) (lv' := [(2, .int (nI (k + 1))), (0, .ref (b 15)), (1, .int (nI 0)), (3, .int (nI 512))]) S.1 S.2.1 dJ7_fill_53178_14 hl (k := 2) rfl (nJ_in _ _) (by decide) rfl (fun ls hl => ?_)
        refine lv_goto (tgt := 5) S.1 S.2.1 dJ7_fill_53178_17 (by decide) ?_
        exact ih5 (k + 1) _ _ (by omega) hI hS (by omega) _ (lv_sub hl [1, 2, 0, 3] rfl)
  exact L5 _ 0 _ _ (by omega) hI hS (Nat.lt_succ_self _) _ (lv_sub hl [2, 3, 1, 0] rfl)
theorem kJ7_fill_53178_pw {p : Program} {l : Launch} {e : Env} {R : Room} {s : State} {m : MethodId} {args : Array Value} {below : List Frame} {meth : Method} {c : Code} {H H0 : Heap} {locs : List Loc} {cells slots : Nat} {Q : State → Prop} {cc : ByteArray} {nL index pc : Nat} {own : String} {ls : Array Slot} {rest : List Value} {D : va_G} {K : Nat → ClassId} {b : Nat → Nat} {w n lap : Nat} {op mu ba la en : Nat → Nat} {pr : Nat → Option Nat} {fr : Bool} {co : Nat → Nat → Nat} {cw cj : Nat → Int64} {cl : Nat} {rv : Int64} {rc : Nat} {pj : Nat → Nat → Nat} {pw ch : Nat → Nat} {pl lc : Nat} {tl : Nat → Nat} (S : CallFix p m c cc nL s args lw_tb own) (hI : PI D K (cW K b w n lap op mu ba la en pr fr co cw cj cl rv rc pj pw ch pl lc tl) s H) (hS : va_S (adA b 44) H0 H locs) (hDis : Dis b 44) (hlink : Cond.methodLink own index yJ7_fill_53178 ∈ lw_tb) (hR : RO 0 R cells slots) (hsz : ls.size = nL) (hW : (rest.map fun v => v.category).sum ≤ 8) (hdg : decode cc pc = .ok (.invokestatic index, 3)) (kk : ∀ (u : Unit) (H1 : Heap) (locs1 : List Loc), (True) → PI D K (cW K b w n lap op mu ba la en pr fr co cw cj cl rv rc pj (lyF pw (fun _ => 0) 512) ch pl lc tl) s H1 → va_S (adA b 44) H0 H1 locs1 → H.size ≤ H1.size → (∀ q : Nat, q < H.size → ¬ (adA b 44) q → H1[q]? = H[q]?) → W p l e R s m args below meth c H1 locs1 cells slots Q (F0 m (pc + 3) ls (rest))) : W p l e R s m args below meth c H locs cells slots Q (F0 m pc ls (.int (nI 0) :: .ref (b 15) :: rest)) :=
  kSX (As := [.ref (b 15), .int (nI 0)]) S (mJ7_fill_53178_pw l hDis) hlink tw_338 tw_51 tw_339 (by show _ ∧ _ ∧ _ = some 2; decide +kernel) (by decide) hR blP (piU hI) hS (fun _ h => h) hsz rfl hW hdg kk

set_option maxHeartbeats 4000000 in
set_option maxRecDepth 100000 in
theorem mJ7_fill_d0a16_cw (l : Launch) {D : va_G} {K : Nat → ClassId} {b : Nat → Nat} {w n lap : Nat} {op mu ba la en : Nat → Nat} {pr : Nat → Option Nat} {fr : Bool} {co : Nat → Nat → Nat} {cw cj : Nat → Int64} {cl : Nat} {rv : Int64} {rc : Nat} {pj : Nat → Nat → Nat} {pw ch : Nat → Nat} {pl lc : Nat} {tl : Nat → Nat} (hDis : Dis b 44) : Met l yJ7_fill_d0a16 (TWd yJ7_fill_d0a16 cJ7_fill_d0a16 5 none) (rmk 0) (va_Pc [.ref (b 11), .long 1] (fun U => PI D K (cW K b w n lap op mu ba la en pr fr co cw cj cl rv rc pj pw ch pl lc tl) U U.heap)) (QX D K (fun u : Unit => none) (fun u => (cW K b w n lap op mu ba la en pr fr co (lyG cw (fun _ => 1) 512) cj cl rv rc pj pw ch pl lc tl)) (fun u => True) (adA b 44)) 0 0 (adA b 44) := by
  refine mt_of (by decide +kernel) (Nat.le_of_ble_eq_true rfl) ?_
  intro p e s m below meth c S hr hlk hI ls hl
  have S : CallFix p m c cJ7_fill_d0a16 5 s ([.ref (b 11), .long 1] : List Value).toArray lw_tb RJ7 := S
  have hl : lv_has ls 5 [(0, .ref (b 11)), (1, .long 1)] := hl
  have hS : va_S (adA b 44) s.heap s.heap [] := va_S.rf
  refine lv_iconst (v := nI 0) S.1 S.2.1 dJ7_fill_d0a16_0 (by decide) ?_
  refine lv_istore_n (lv' := [(3, .int (nI 0)), (0, .ref (b 11)), (1, .long 1)]) S.1 S.2.1 dJ7_fill_d0a16_1 rfl hl (by decide) rfl (fun ls hl => ?_)
  refine lv_aload_n S.1 S.2.1 dJ7_fill_d0a16_2 rfl (lv_at hl 1 rfl) ?_
  refine ly_alen (t0 := 1) (v := nI 512) S hI 11 rfl rfl rfl dJ7_fill_d0a16_3 ?_
  rw [← lyG_0 (la := cw) (f := fun _ => 1)] at hI
  refine lv_istore (lv' := [(4, .int (nI 512)), (3, .int (nI 0)), (0, .ref (b 11)), (1, .long 1)]) S.1 S.2.1 dJ7_fill_d0a16_4 hl (by decide) rfl (fun ls hl => ?_)
  have L6 : ∀ (f6 : Nat) (k : Nat) (H : Heap) (locs : List Loc), (k ≤ 512) → (PI D K (cW K b w n lap op mu ba la en pr fr co (lyG cw (fun _ => 1) k) cj cl rv rc pj pw ch pl lc tl) s H) → (va_S (adA b 44) s.heap H locs) → 512 - k < f6 → ∀ (ls : Array Slot), lv_has ls 5 [(0, .ref (b 11)), (1, .long 1), (3, .int (nI k)), (4, .int (nI 512))] → W p l e (rmk 0) s m ([.ref (b 11), .long 1] : List Value).toArray below meth c H locs 0 0 (MQ below (QX D K (fun u : Unit => none) (fun u => (cW K b w n lap op mu ba la en pr fr co (lyG cw (fun _ => 1) 512) cj cl rv rc pj pw ch pl lc tl)) (fun u => True) (adA b 44)) ([.ref (b 11), .long 1] : List Value).toArray s 0 0 (adA b 44)) (F0 m 6 ls []) := by
    intro f6
    induction f6 with
    | zero =>
      intro k H locs i1 hI hS hm
      exact absurd hm (Nat.not_lt_zero _)
    | succ f6 ih6 =>
      intro k H locs i1 hI hS hm6 ls hl
      refine lv_iload_n S.1 S.2.1 dJ7_fill_d0a16_6 rfl (lv_at hl 2 rfl) ?_
      refine lv_iload S.1 S.2.1 dJ7_fill_d0a16_7 (lv_at hl 3 rfl) ?_
      refine ly_cmge (tgt := 22) S (nI_le1 (by omega) (by omega)) (nI_le2 (by omega) (by omega)) dJ7_fill_d0a16_9 (by decide) (fun h1 => ?_) (fun h1 => ?_)
      · skip
        have ek : k = 512 := by omega
        rw [ek] at hI
        exact rw_v S hr hlk () rfl trivial hI hS dJ7_fill_d0a16_22
      · skip
        refine lv_aload_n S.1 S.2.1 dJ7_fill_d0a16_12 rfl (lv_at hl 0 rfl) ?_
        refine lv_iload_n S.1 S.2.1 dJ7_fill_d0a16_13 rfl (lv_at hl 2 rfl) ?_
        refine lv_lload_n S.1 S.2.1 dJ7_fill_d0a16_14 rfl (lv_at hl 1 rfl) ?_
        refine ly_last (ws' := (cW K b w n lap op mu ba la en pr fr co (va_up (lyG cw (fun _ => 1) k) k 1) cj cl rv rc pj pw ch pl lc tl)) S hI (cD hDis) hS 11 rfl (by omega) (by decide) cs_cw dJ7_fill_d0a16_15 (fun H locs hI hS => ?_)
        rw [lyG_s (f := fun _ => 1)] at hI
        refine lv_iinc (v := nI (k + 1)) (lv' := [(3, .int (nI (k + 1))), (0, .ref (b 11)), (1, .long 1), (4, .int (nI 512))]) S.1 S.2.1 dJ7_fill_d0a16_16 hl (k := 2) rfl (nJ_in _ _) (by decide) rfl (fun ls hl => ?_)
        refine lv_goto (tgt := 6) S.1 S.2.1 dJ7_fill_d0a16_19 (by decide) ?_
        exact ih6 (k + 1) _ _ (by omega) hI hS (by omega) _ (lv_sub hl [1, 2, 0, 3] rfl)
  exact L6 _ 0 _ _ (by omega) hI hS (Nat.lt_succ_self _) _ (lv_sub hl [2, 3, 1, 0] rfl)
theorem kJ7_fill_d0a16_cw {p : Program} {l : Launch} {e : Env} {R : Room} {s : State} {m : MethodId} {args : Array Value} {below : List Frame} {meth : Method} {c : Code} {H H0 : Heap} {locs : List Loc} {cells slots : Nat} {Q : State → Prop} {cc : ByteArray} {nL index pc : Nat} {own : String} {ls : Array Slot} {rest : List Value} {D : va_G} {K : Nat → ClassId} {b : Nat → Nat} {w n lap : Nat} {op mu ba la en : Nat → Nat} {pr : Nat → Option Nat} {fr : Bool} {co : Nat → Nat → Nat} {cw cj : Nat → Int64} {cl : Nat} {rv : Int64} {rc : Nat} {pj : Nat → Nat → Nat} {pw ch : Nat → Nat} {pl lc : Nat} {tl : Nat → Nat} (S : CallFix p m c cc nL s args lw_tb own) (hI : PI D K (cW K b w n lap op mu ba la en pr fr co cw cj cl rv rc pj pw ch pl lc tl) s H) (hS : va_S (adA b 44) H0 H locs) (hDis : Dis b 44) (hlink : Cond.methodLink own index yJ7_fill_d0a16 ∈ lw_tb) (hR : RO 0 R cells slots) (hsz : ls.size = nL) (hW : (rest.map fun v => v.category).sum ≤ 8) (hdg : decode cc pc = .ok (.invokestatic index, 3)) (kk : ∀ (u : Unit) (H1 : Heap) (locs1 : List Loc), (True) → PI D K (cW K b w n lap op mu ba la en pr fr co (lyG cw (fun _ => 1) 512) cj cl rv rc pj pw ch pl lc tl) s H1 → va_S (adA b 44) H0 H1 locs1 → H.size ≤ H1.size → (∀ q : Nat, q < H.size → ¬ (adA b 44) q → H1[q]? = H[q]?) → W p l e R s m args below meth c H1 locs1 cells slots Q (F0 m (pc + 3) ls (rest))) : W p l e R s m args below meth c H locs cells slots Q (F0 m pc ls (.long 1 :: .ref (b 11) :: rest)) :=
  kSX (As := [.ref (b 11), .long 1]) S (mJ7_fill_d0a16_cw l hDis) hlink tw_439 tw_51 tw_440 (by show _ ∧ _ ∧ _ = some 2; decide +kernel) (by decide) hR blP (piU hI) hS (fun _ h => h) hsz rfl hW hdg kk

set_option maxHeartbeats 4000000 in
set_option maxRecDepth 100000 in
theorem mX5_clear (l : Launch) {D : va_G} {K : Nat → ClassId} {b : Nat → Nat} {w n lap : Nat} {op mu ba la en : Nat → Nat} {pr : Nat → Option Nat} {fr : Bool} {co : Nat → Nat → Nat} {cw cj : Nat → Int64} {cl : Nat} {rv : Int64} {rc : Nat} {pj : Nat → Nat → Nat} {pw ch : Nat → Nat} {pl lc : Nat} {tl : Nat → Nat} (hDis : Dis b 44) (hG : GOK w n lap op mu ba la en pr) : Met l yX5_clear (TWd yX5_clear cX5_clear 1 none) (rmk 1) (va_Pc [.ref (b 17)] (fun U => PI D K (cW K b w n lap op mu ba la en pr fr co cw cj cl rv rc pj pw ch pl lc tl) U U.heap)) (QX D K (fun u : Unit => none) (fun u => (cW K b w n lap op mu ba la en pr fr co cw cj cl rv rc pj pw ch pl lc (lyF tl (fun _ => 0) 11))) (fun u => True) (adA b 44)) 0 0 (adA b 44) := by
  refine mt_of (by decide +kernel) (Nat.le_of_ble_eq_true rfl) ?_
  intro p e s m below meth c S hr hlk hI ls hl
  have S : CallFix p m c cX5_clear 1 s ([.ref (b 17)] : List Value).toArray lw_tb RX5 := S
  have hl : lv_has ls 1 [(0, .ref (b 17))] := hl
  have hS : va_S (adA b 44) s.heap s.heap [] := va_S.rf
  obtain ⟨gw1, gw2, gn, gl1, gl2, gop, gmu, gba, gla, gen, gpr, gop2, gmu2, gba2, gla2, gme, gbe, gle, gee⟩ := id hG
  refine lv_aload_n S.1 S.2.1 dX5_clear_0 rfl (lv_at hl 0 rfl) ?_
  refine g5 S hI 17 rfl 0 (by decide) tw_232 rfl dX5_clear_1 ?_
  refine lv_iconst (v := nI 0) S.1 S.2.1 dX5_clear_4 (by decide) ?_
  refine kJ7_fill_53178_tl S hI hS hDis tw_337 (rok (by decide)) hl.1 (Nat.le_of_ble_eq_true rfl) dX5_clear_5 (fun u1 H locs hu1 hI hS _ _ => ?_)
  exact rw_v S hr hlk () rfl trivial hI hS dX5_clear_8
theorem kX5_clear {p : Program} {l : Launch} {e : Env} {R : Room} {s : State} {m : MethodId} {args : Array Value} {below : List Frame} {meth : Method} {c : Code} {H H0 : Heap} {locs : List Loc} {cells slots : Nat} {Q : State → Prop} {cc : ByteArray} {nL index pc : Nat} {own : String} {ls : Array Slot} {rest : List Value} {D : va_G} {K : Nat → ClassId} {b : Nat → Nat} {w n lap : Nat} {op mu ba la en : Nat → Nat} {pr : Nat → Option Nat} {fr : Bool} {co : Nat → Nat → Nat} {cw cj : Nat → Int64} {cl : Nat} {rv : Int64} {rc : Nat} {pj : Nat → Nat → Nat} {pw ch : Nat → Nat} {pl lc : Nat} {tl : Nat → Nat} (S : CallFix p m c cc nL s args lw_tb own) (hI : PI D K (cW K b w n lap op mu ba la en pr fr co cw cj cl rv rc pj pw ch pl lc tl) s H) (hS : va_S (adA b 44) H0 H locs) (hDis : Dis b 44) (hG : GOK w n lap op mu ba la en pr) (hlink : Cond.methodLink own index yX5_clear ∈ lw_tb) (hR : RO 1 R cells slots) (hsz : ls.size = nL) (hW : (rest.map fun v => v.category).sum ≤ 8) (hdg : decode cc pc = .ok (.invokevirtual index, 3)) (kk : ∀ (u : Unit) (H1 : Heap) (locs1 : List Loc), (True) → PI D K (cW K b w n lap op mu ba la en pr fr co cw cj cl rv rc pj pw ch pl lc (lyF tl (fun _ => 0) 11)) s H1 → va_S (adA b 44) H0 H1 locs1 → H.size ≤ H1.size → (∀ q : Nat, q < H.size → ¬ (adA b 44) q → H1[q]? = H[q]?) → W p l e R s m args below meth c H1 locs1 cells slots Q (F0 m (pc + 3) ls (rest))) : W p l e R s m args below meth c H locs cells slots Q (F0 m pc ls (.ref (b 17) :: rest)) :=
  kVX (As := []) (b := b 17) S (mX5_clear l hDis hG) hlink tw_334 tw_335 tw_49 tw_336 (by show _ ∧ _ ∧ _ = some 0; decide +kernel) (by decide) hR blP (piU hI) (va_recv hI.2 hI.1 (ci := 5) (q0 := 17) rfl rfl) hS (fun _ h => h) hsz rfl hW hdg kk

set_option maxHeartbeats 4000000 in
set_option maxRecDepth 100000 in
theorem mX5_add (l : Launch) {D : va_G} {K : Nat → ClassId} {b : Nat → Nat} {w n lap : Nat} {op mu ba la en : Nat → Nat} {pr : Nat → Option Nat} {fr : Bool} {co : Nat → Nat → Nat} {cw cj : Nat → Int64} {cl : Nat} {rv : Int64} {rc : Nat} {pj : Nat → Nat → Nat} {pw ch : Nat → Nat} {pl lc : Nat} {tl : Nat → Nat} {L : Nat} (hDis : Dis b 44) (hG : GOK w n lap op mu ba la en pr) (hL : L ≤ 10) : Met l yX5_add (TWd yX5_add cX5_add 2 none) (rmk 0) (va_Pc [.ref (b 17), .int (nI L)] (fun U => PI D K (cW K b w n lap op mu ba la en pr fr co cw cj cl rv rc pj pw ch pl lc tl) U U.heap)) (QX D K (fun u : Unit => none) (fun u => (cW K b w n lap op mu ba la en pr fr co cw cj cl rv rc pj pw ch pl lc (va_up tl L (tl L + 1)))) (fun u => True) (adA b 44)) 0 0 (adA b 44) := by
  refine mt_of (by decide +kernel) (Nat.le_of_ble_eq_true rfl) ?_
  intro p e s m below meth c S hr hlk hI ls hl
  have S : CallFix p m c cX5_add 2 s ([.ref (b 17), .int (nI L)] : List Value).toArray lw_tb RX5 := S
  have hl : lv_has ls 2 [(0, .ref (b 17)), (1, .int (nI L))] := hl
  have hS : va_S (adA b 44) s.heap s.heap [] := va_S.rf
  obtain ⟨gw1, gw2, gn, gl1, gl2, gop, gmu, gba, gla, gen, gpr, gop2, gmu2, gba2, gla2, gme, gbe, gle, gee⟩ := id hG
  refine lv_iload_n S.1 S.2.1 dX5_add_0 rfl (lv_at hl 1 rfl) ?_
  refine ly_iflt (tgt := 23) S (fun q => (nI_n1 (by omega) q : False)) (fun q => nI_n2 q) dX5_add_1 (by decide) (fun h1 => ?_) (fun h1 => ?_)
  · skip
    exact h1.elim
  · skip
    refine lv_iload_n S.1 S.2.1 dX5_add_4 rfl (lv_at hl 1 rfl) ?_
    refine lv_aload_n S.1 S.2.1 dX5_add_5 rfl (lv_at hl 0 rfl) ?_
    refine g5 S hI 17 rfl 0 (by decide) tw_232 rfl dX5_add_6 ?_
    refine ly_alen (t0 := 0) (v := nI 11) S hI 18 rfl rfl rfl dX5_add_9 ?_
    refine ly_cmge (tgt := 23) S (nI_le1 (by omega) (by omega)) (nI_le2 (by omega) (by omega)) dX5_add_10 (by decide) (fun h2 => ?_) (fun h2 => ?_)
    · skip
      exact absurd h2 (by omega)
    · skip
      refine lv_aload_n S.1 S.2.1 dX5_add_13 rfl (lv_at hl 0 rfl) ?_
      refine g5 S hI 17 rfl 0 (by decide) tw_232 rfl dX5_add_14 ?_
      refine lv_iload_n S.1 S.2.1 dX5_add_17 rfl (lv_at hl 1 rfl) ?_
      refine lv_dup2_11 S.1 S.2.1 dX5_add_18 rfl rfl ?_
      refine ly_iald (v := (nI (tl L))) S hI 18 rfl (by omega) (by decide) rfl dX5_add_19 ?_
      refine lv_iconst (v := nI 1) S.1 S.2.1 dX5_add_20 (by decide) ?_
      refine lv_iadd S.1 S.2.1 dX5_add_21 ?_
      refine ly_top (z := nI ((tl L) + 1)) (nI_add _ _) ?_
      refine ly_iast (ws' := (cW K b w n lap op mu ba la en pr fr co cw cj cl rv rc pj pw ch pl lc (va_up tl L ((tl L) + 1)))) S hI (cD hDis) hS 18 rfl (by omega) (by decide) cs_tl dX5_add_22 (fun H locs hI hS => ?_)
      exact rw_v S hr hlk () rfl trivial hI hS dX5_add_23
theorem kX5_add {p : Program} {l : Launch} {e : Env} {R : Room} {s : State} {m : MethodId} {args : Array Value} {below : List Frame} {meth : Method} {c : Code} {H H0 : Heap} {locs : List Loc} {cells slots : Nat} {Q : State → Prop} {cc : ByteArray} {nL index pc : Nat} {own : String} {ls : Array Slot} {rest : List Value} {D : va_G} {K : Nat → ClassId} {b : Nat → Nat} {w n lap : Nat} {op mu ba la en : Nat → Nat} {pr : Nat → Option Nat} {fr : Bool} {co : Nat → Nat → Nat} {cw cj : Nat → Int64} {cl : Nat} {rv : Int64} {rc : Nat} {pj : Nat → Nat → Nat} {pw ch : Nat → Nat} {pl lc : Nat} {tl : Nat → Nat} {L : Nat} (S : CallFix p m c cc nL s args lw_tb own) (hI : PI D K (cW K b w n lap op mu ba la en pr fr co cw cj cl rv rc pj pw ch pl lc tl) s H) (hS : va_S (adA b 44) H0 H locs) (hDis : Dis b 44) (hG : GOK w n lap op mu ba la en pr) (hL : L ≤ 10) (hlink : Cond.methodLink own index yX5_add ∈ lw_tb) (hR : RO 0 R cells slots) (hsz : ls.size = nL) (hW : (rest.map fun v => v.category).sum ≤ 8) (hdg : decode cc pc = .ok (.invokevirtual index, 3)) (kk : ∀ (u : Unit) (H1 : Heap) (locs1 : List Loc), (True) → PI D K (cW K b w n lap op mu ba la en pr fr co cw cj cl rv rc pj pw ch pl lc (va_up tl L (tl L + 1))) s H1 → va_S (adA b 44) H0 H1 locs1 → H.size ≤ H1.size → (∀ q : Nat, q < H.size → ¬ (adA b 44) q → H1[q]? = H[q]?) → W p l e R s m args below meth c H1 locs1 cells slots Q (F0 m (pc + 3) ls (rest))) : W p l e R s m args below meth c H locs cells slots Q (F0 m pc ls (.int (nI L) :: .ref (b 17) :: rest)) :=
  kVX (As := [.int (nI L)]) (b := b 17) S (mX5_add l hDis hG hL) hlink tw_357 tw_358 tw_49 tw_359 (by show _ ∧ _ ∧ _ = some 1; decide +kernel) (by decide) hR blP (piU hI) (va_recv hI.2 hI.1 (ci := 5) (q0 := 17) rfl rfl) hS (fun _ h => h) hsz rfl hW hdg kk

set_option maxHeartbeats 4000000 in
set_option maxRecDepth 100000 in
theorem mX5_of (l : Launch) {D : va_G} {K : Nat → ClassId} {b : Nat → Nat} {w n lap : Nat} {op mu ba la en : Nat → Nat} {pr : Nat → Option Nat} {fr : Bool} {co : Nat → Nat → Nat} {cw cj : Nat → Int64} {cl : Nat} {rv : Int64} {rc : Nat} {pj : Nat → Nat → Nat} {pw ch : Nat → Nat} {pl lc : Nat} {tl : Nat → Nat} {L : Nat} (hG : GOK w n lap op mu ba la en pr) (hL : L ≤ 10) : Met l yX5_of (TWd yX5_of cX5_of 2 (some .int)) (rmk 0) (va_Pc [.ref (b 17), .int (nI L)] (fun U => PI D K (cW K b w n lap op mu ba la en pr fr co cw cj cl rv rc pj pw ch pl lc tl) U U.heap)) (QcRead (nI (tl L))) 0 0 (fun _ => False) := by
  refine mt_of (by decide +kernel) (Nat.le_of_ble_eq_true rfl) ?_
  intro p e s m below meth c S hr hlk hI ls hl
  have S : CallFix p m c cX5_of 2 s ([.ref (b 17), .int (nI L)] : List Value).toArray lw_tb RX5 := S
  have hl : lv_has ls 2 [(0, .ref (b 17)), (1, .int (nI L))] := hl
  obtain ⟨gw1, gw2, gn, gl1, gl2, gop, gmu, gba, gla, gen, gpr, gop2, gmu2, gba2, gla2, gme, gbe, gle, gee⟩ := id hG
  refine lv_iload_n S.1 S.2.1 dX5_of_0 rfl (lv_at hl 1 rfl) ?_
  refine ly_iflt (tgt := 13) S (fun q => (nI_n1 (by omega) q : False)) (fun q => nI_n2 q) dX5_of_1 (by decide) (fun h1 => ?_) (fun h1 => ?_)
  · skip
    exact h1.elim
  · skip
    refine lv_iload_n S.1 S.2.1 dX5_of_4 rfl (lv_at hl 1 rfl) ?_
    refine lv_aload_n S.1 S.2.1 dX5_of_5 rfl (lv_at hl 0 rfl) ?_
    refine g5 S hI 17 rfl 0 (by decide) tw_232 rfl dX5_of_6 ?_
    refine ly_alen (t0 := 0) (v := nI 11) S hI 18 rfl rfl rfl dX5_of_9 ?_
    refine ly_cmlt (tgt := 17) S (nI_l1 (by omega) (by omega)) (nI_l2 (by omega) (by omega)) dX5_of_10 (by decide) (fun h2 => ?_) (fun h2 => ?_)
    · skip
      refine lv_aload_n S.1 S.2.1 dX5_of_17 rfl (lv_at hl 0 rfl) ?_
      refine g5 S hI 17 rfl 0 (by decide) tw_232 rfl dX5_of_18 ?_
      refine lv_iload_n S.1 S.2.1 dX5_of_21 rfl (lv_at hl 1 rfl) ?_
      refine ly_iald (v := (nI (tl L))) S hI 18 rfl (by omega) (by decide) rfl dX5_of_22 ?_
      exact rt_i S hr hlk rfl dX5_of_23
    · skip
      exact absurd h2 (by omega)
theorem kX5_of {p : Program} {l : Launch} {e : Env} {R : Room} {s : State} {m : MethodId} {args : Array Value} {below : List Frame} {meth : Method} {c : Code} {H : Heap} {locs : List Loc} {cells slots : Nat} {Q : State → Prop} {cc : ByteArray} {nL index pc : Nat} {own : String} {ls : Array Slot} {rest : List Value} {D : va_G} {K : Nat → ClassId} {b : Nat → Nat} {w n lap : Nat} {op mu ba la en : Nat → Nat} {pr : Nat → Option Nat} {fr : Bool} {co : Nat → Nat → Nat} {cw cj : Nat → Int64} {cl : Nat} {rv : Int64} {rc : Nat} {pj : Nat → Nat → Nat} {pw ch : Nat → Nat} {pl lc : Nat} {tl : Nat → Nat} {L : Nat} (S : CallFix p m c cc nL s args lw_tb own) (hI : PI D K (cW K b w n lap op mu ba la en pr fr co cw cj cl rv rc pj pw ch pl lc tl) s H) (hG : GOK w n lap op mu ba la en pr) (hL : L ≤ 10) (hlink : Cond.methodLink own index yX5_of ∈ lw_tb) (hR : RO 0 R cells slots) (hsz : ls.size = nL) (hW : (rest.map fun v => v.category).sum ≤ 8) (hdg : decode cc pc = .ok (.invokevirtual index, 3)) (kk : W p l e R s m args below meth c H locs cells slots Q (F0 m (pc + 3) ls (.int (nI (tl L)) :: rest))) : W p l e R s m args below meth c H locs cells slots Q (F0 m pc ls (.int (nI L) :: .ref (b 17) :: rest)) :=
  kV (As := [.int (nI L)]) (b := b 17) S (mX5_of l hG hL) hlink tw_511 tw_512 tw_49 tw_513 (by show _ ∧ _ ∧ _ = some 1; decide +kernel) (by decide) hR blP (piU hI) (va_recv hI.2 hI.1 (ci := 5) (q0 := 17) rfl rfl) hsz rfl hW hdg kk

set_option maxHeartbeats 4000000 in
set_option maxRecDepth 100000 in
theorem mX5_total (l : Launch) {D : va_G} {K : Nat → ClassId} {b : Nat → Nat} {w n lap : Nat} {op mu ba la en : Nat → Nat} {pr : Nat → Option Nat} {fr : Bool} {co : Nat → Nat → Nat} {cw cj : Nat → Int64} {cl : Nat} {rv : Int64} {rc : Nat} {pj : Nat → Nat → Nat} {pw ch : Nat → Nat} {pl lc : Nat} {tl : Nat → Nat} (hG : GOK w n lap op mu ba la en pr) : Met l yX5_total (TWd yX5_total cX5_total 6 (some .int)) (rmk 0) (va_Pc [.ref (b 17)] (fun U => PI D K (cW K b w n lap op mu ba la en pr fr co cw cj cl rv rc pj pw ch pl lc tl) U U.heap)) (QcRead (nI (sumN tl 11))) 0 0 (fun _ => False) := by
  refine mt_of (by decide +kernel) (Nat.le_of_ble_eq_true rfl) ?_
  intro p e s m below meth c S hr hlk hI ls hl
  have S : CallFix p m c cX5_total 6 s ([.ref (b 17)] : List Value).toArray lw_tb RX5 := S
  have hl : lv_has ls 6 [(0, .ref (b 17))] := hl
  obtain ⟨gw1, gw2, gn, gl1, gl2, gop, gmu, gba, gla, gen, gpr, gop2, gmu2, gba2, gla2, gme, gbe, gle, gee⟩ := id hG
  refine lv_iconst (v := nI 0) S.1 S.2.1 dX5_total_0 (by decide) ?_
  refine ly_top (z := (nI (sumN tl 0))) rfl ?_
  refine lv_istore_n (lv' := [(1, .int (nI (sumN tl 0))), (0, .ref (b 17))]) S.1 S.2.1 dX5_total_1 rfl hl (by decide) rfl (fun ls hl => ?_)
  refine lv_aload_n S.1 S.2.1 dX5_total_2 rfl (lv_at hl 1 rfl) ?_
  refine g5 S hI 17 rfl 0 (by decide) tw_232 rfl dX5_total_3 ?_
  refine lv_astore_n (lv' := [(2, .ref (b 18)), (1, .int (nI (sumN tl 0))), (0, .ref (b 17))]) S.1 S.2.1 dX5_total_6 rfl hl (by decide) rfl (fun ls hl => ?_)
  refine lv_aload_n S.1 S.2.1 dX5_total_7 rfl (lv_at hl 0 rfl) ?_
  refine ly_alen (t0 := 0) (v := nI 11) S hI 18 rfl rfl rfl dX5_total_8 ?_
  refine lv_istore_n (lv' := [(3, .int (nI 11)), (2, .ref (b 18)), (1, .int (nI (sumN tl 0))), (0, .ref (b 17))]) S.1 S.2.1 dX5_total_9 rfl hl (by decide) rfl (fun ls hl => ?_)
  refine lv_iconst (v := nI 0) S.1 S.2.1 dX5_total_10 (by decide) ?_
  refine lv_istore (lv' := [(4, .int (nI 0)), (3, .int (nI 11)), (2, .ref (b 18)), (1, .int (nI (sumN tl 0))), (0, .ref (b 17))]) S.1 S.2.1 dX5_total_11 hl (by decide) rfl (fun ls hl => ?_)
  have L13 : ∀ (f13 : Nat) (k : Nat), (k ≤ 11) → 11 - k < f13 → ∀ (ls : Array Slot), lv_has ls 6 [(0, .ref (b 17)), (1, .int (nI (sumN tl k))), (2, .ref (b 18)), (3, .int (nI 11)), (4, .int (nI k))] → W p l e (rmk 0) s m ([.ref (b 17)] : List Value).toArray below meth c s.heap [] 0 0 (MQ below (QcRead (nI (sumN tl 11))) ([.ref (b 17)] : List Value).toArray s 0 0 (fun _ => False)) (F0 m 13 ls []) := by
    intro f13
    induction f13 with
    | zero =>
      intro k i1 hm
      exact absurd hm (Nat.not_lt_zero _)
    | succ f13 ih13 =>
      intro k i1 hm13 ls hl
      refine lv_iload S.1 S.2.1 dX5_total_13 (lv_at hl 4 rfl) ?_
      refine lv_iload_n S.1 S.2.1 dX5_total_15 rfl (lv_at hl 3 rfl) ?_
      refine ly_cmge (tgt := 36) S (nI_le1 (by omega) (by omega)) (nI_le2 (by omega) (by omega)) dX5_total_16 (by decide) (fun h1 => ?_) (fun h1 => ?_)
      · skip
        refine lv_iload_n S.1 S.2.1 dX5_total_36 rfl (lv_at hl 1 rfl) ?_
        exact rt_i S hr hlk (by rw [show k = 11 by omega]) dX5_total_37
      · skip
        refine lv_aload_n S.1 S.2.1 dX5_total_19 rfl (lv_at hl 2 rfl) ?_
        refine lv_iload S.1 S.2.1 dX5_total_20 (lv_at hl 4 rfl) ?_
        refine ly_iald (v := (nI (tl k))) S hI 18 rfl (by omega) (by decide) rfl dX5_total_22 ?_
        refine lv_istore (lv' := [(5, .int (nI (tl k))), (0, .ref (b 17)), (1, .int (nI (sumN tl k))), (2, .ref (b 18)), (3, .int (nI 11)), (4, .int (nI k))]) S.1 S.2.1 dX5_total_23 hl (by decide) rfl (fun ls hl => ?_)
        refine lv_iload_n S.1 S.2.1 dX5_total_25 rfl (lv_at hl 2 rfl) ?_
        refine lv_iload S.1 S.2.1 dX5_total_26 (lv_at hl 0 rfl) ?_
        refine lv_iadd S.1 S.2.1 dX5_total_28 ?_
        refine ly_top (z := nI ((sumN tl k) + (tl k))) (nI_add _ _) ?_
        refine ly_top (z := (nI (sumN tl (k + 1)))) rfl ?_
        refine lv_istore_n (lv' := [(1, .int (nI (sumN tl (k + 1)))), (5, .int (nI (tl k))), (0, .ref (b 17)), (2, .ref (b 18)), (3, .int (nI 11)), (4, .int (nI k))]) S.1 S.2.1 dX5_total_29 rfl hl (by decide) rfl (fun ls hl => ?_)
        refine lv_iinc (v := nI (k + 1)) (lv' := [(4, .int (nI (k + 1))), (1, .int (nI (sumN tl (k + 1)))), (5, .int (nI (tl k))), (0, .ref (b 17)), (2, .ref (b 18)), (3, .int (nI 11))]) S.1 S.2.1 dX5_total_30 hl (k := 5) rfl (nJ_in _ _) (by decide) rfl (fun ls hl => ?_)
        refine lv_goto (tgt := 13) S.1 S.2.1 dX5_total_33 (by decide) ?_
        exact ih13 (k + 1) (by omega) (by omega) _ (lv_sub hl [3, 1, 4, 5, 0] rfl)
  exact L13 _ 0 (by omega) (Nat.lt_succ_self _) _ (lv_sub hl [4, 3, 2, 1, 0] rfl)
theorem kX5_total {p : Program} {l : Launch} {e : Env} {R : Room} {s : State} {m : MethodId} {args : Array Value} {below : List Frame} {meth : Method} {c : Code} {H : Heap} {locs : List Loc} {cells slots : Nat} {Q : State → Prop} {cc : ByteArray} {nL index pc : Nat} {own : String} {ls : Array Slot} {rest : List Value} {D : va_G} {K : Nat → ClassId} {b : Nat → Nat} {w n lap : Nat} {op mu ba la en : Nat → Nat} {pr : Nat → Option Nat} {fr : Bool} {co : Nat → Nat → Nat} {cw cj : Nat → Int64} {cl : Nat} {rv : Int64} {rc : Nat} {pj : Nat → Nat → Nat} {pw ch : Nat → Nat} {pl lc : Nat} {tl : Nat → Nat} (S : CallFix p m c cc nL s args lw_tb own) (hI : PI D K (cW K b w n lap op mu ba la en pr fr co cw cj cl rv rc pj pw ch pl lc tl) s H) (hG : GOK w n lap op mu ba la en pr) (hlink : Cond.methodLink own index yX5_total ∈ lw_tb) (hR : RO 0 R cells slots) (hsz : ls.size = nL) (hW : (rest.map fun v => v.category).sum ≤ 8) (hdg : decode cc pc = .ok (.invokevirtual index, 3)) (kk : W p l e R s m args below meth c H locs cells slots Q (F0 m (pc + 3) ls (.int (nI (sumN tl 11)) :: rest))) : W p l e R s m args below meth c H locs cells slots Q (F0 m pc ls (.ref (b 17) :: rest)) :=
  kV (As := []) (b := b 17) S (mX5_total l hG) hlink tw_361 tw_362 tw_49 tw_363 (by show _ ∧ _ ∧ _ = some 0; decide +kernel) (by decide) hR blP (piU hI) (va_recv hI.2 hI.1 (ci := 5) (q0 := 17) rfl rfl) hsz rfl hW hdg kk

set_option maxHeartbeats 4000000 in
set_option maxRecDepth 100000 in
theorem mX5_costBy (l : Launch) {D : va_G} {K : Nat → ClassId} {b : Nat → Nat} {w n lap : Nat} {op mu ba la en : Nat → Nat} {pr : Nat → Option Nat} {fr : Bool} {co : Nat → Nat → Nat} {cw cj : Nat → Int64} {cl : Nat} {rv : Int64} {rc : Nat} {pj : Nat → Nat → Nat} {pw ch : Nat → Nat} {pl lc : Nat} {tl : Nat → Nat} (hG : GOK w n lap op mu ba la en pr) : Met l yX5_costBy (TWd yX5_costBy cX5_costBy 5 (some .int)) (rmk 1) (va_Pc [.ref (b 17), .ref (b 2)] (fun U => PI D K (cW K b w n lap op mu ba la en pr fr co cw cj cl rv rc pj pw ch pl lc tl) U U.heap)) (QcRead (nI (sumN (fun q => tl (q + 1) * prN pr (q + 1)) 10))) 0 0 (fun _ => False) := by
  refine mt_of (by decide +kernel) (Nat.le_of_ble_eq_true rfl) ?_
  intro p e s m below meth c S hr hlk hI ls hl
  have S : CallFix p m c cX5_costBy 5 s ([.ref (b 17), .ref (b 2)] : List Value).toArray lw_tb RX5 := S
  have hl : lv_has ls 5 [(0, .ref (b 17)), (1, .ref (b 2))] := hl
  obtain ⟨gw1, gw2, gn, gl1, gl2, gop, gmu, gba, gla, gen, gpr, gop2, gmu2, gba2, gla2, gme, gbe, gle, gee⟩ := id hG
  refine lv_iconst (v := nI 0) S.1 S.2.1 dX5_costBy_0 (by decide) ?_
  refine ly_top (z := (nI (sumN (fun q => tl (q + 1) * prN pr (q + 1)) 0))) rfl ?_
  refine lv_istore_n (lv' := [(2, .int (nI (sumN (fun q => tl (q + 1) * prN pr (q + 1)) 0))), (0, .ref (b 17)), (1, .ref (b 2))]) S.1 S.2.1 dX5_costBy_1 rfl hl (by decide) rfl (fun ls hl => ?_)
  refine lv_iconst (v := nI 1) S.1 S.2.1 dX5_costBy_2 (by decide) ?_
  refine lv_istore_n (lv' := [(3, .int (nI 1)), (2, .int (nI (sumN (fun q => tl (q + 1) * prN pr (q + 1)) 0))), (0, .ref (b 17)), (1, .ref (b 2))]) S.1 S.2.1 dX5_costBy_3 rfl hl (by decide) rfl (fun ls hl => ?_)
  have L4 : ∀ (f4 : Nat) (k : Nat), (k ≤ 10) → 10 - k < f4 → ∀ (ls : Array Slot), lv_has ls 5 [(0, .ref (b 17)), (1, .ref (b 2)), (2, .int (nI (sumN (fun q => tl (q + 1) * prN pr (q + 1)) k))), (3, .int (nI (k + 1)))] → W p l e (rmk 1) s m ([.ref (b 17), .ref (b 2)] : List Value).toArray below meth c s.heap [] 0 0 (MQ below (QcRead (nI (sumN (fun q => tl (q + 1) * prN pr (q + 1)) 10))) ([.ref (b 17), .ref (b 2)] : List Value).toArray s 0 0 (fun _ => False)) (F0 m 4 ls []) := by
    intro f4
    induction f4 with
    | zero =>
      intro k i1 hm
      exact absurd hm (Nat.not_lt_zero _)
    | succ f4 ih4 =>
      intro k i1 hm4 ls hl
      refine lv_iload_n S.1 S.2.1 dX5_costBy_4 rfl (lv_at hl 3 rfl) ?_
      refine lv_aload_n S.1 S.2.1 dX5_costBy_5 rfl (lv_at hl 0 rfl) ?_
      refine g5 S hI 17 rfl 0 (by decide) tw_232 rfl dX5_costBy_6 ?_
      refine ly_alen (t0 := 0) (v := nI 11) S hI 18 rfl rfl rfl dX5_costBy_9 ?_
      refine ly_cmge (tgt := 50) S (nI_le1 (by omega) (by omega)) (nI_le2 (by omega) (by omega)) dX5_costBy_10 (by decide) (fun h1 => ?_) (fun h1 => ?_)
      · skip
        refine lv_iload_n S.1 S.2.1 dX5_costBy_50 rfl (lv_at hl 2 rfl) ?_
        exact rt_i S hr hlk (by rw [show k = 10 by omega]) dX5_costBy_51
      · skip
        refine lv_aload_n S.1 S.2.1 dX5_costBy_13 rfl (lv_at hl 1 rfl) ?_
        refine lv_iload_n S.1 S.2.1 dX5_costBy_14 rfl (lv_at hl 3 rfl) ?_
        refine kX0_priceOf S hI hG (by omega) tw_557 (rok (by decide)) hl.1 (Nat.le_of_ble_eq_true rfl) dX5_costBy_15 ?_
        refine lv_istore (lv' := [(4, .int (ppI pr (k + 1))), (0, .ref (b 17)), (1, .ref (b 2)), (2, .int (nI (sumN (fun q => tl (q + 1) * prN pr (q + 1)) k))), (3, .int (nI (k + 1)))]) S.1 S.2.1 dX5_costBy_18 hl (by decide) rfl (fun ls hl => ?_)
        refine lv_iload_n S.1 S.2.1 dX5_costBy_20 rfl (lv_at hl 3 rfl) ?_
        refine lv_aload_n S.1 S.2.1 dX5_costBy_21 rfl (lv_at hl 1 rfl) ?_
        refine g5 S hI 17 rfl 0 (by decide) tw_232 rfl dX5_costBy_22 ?_
        refine lv_iload_n S.1 S.2.1 dX5_costBy_25 rfl (lv_at hl 4 rfl) ?_
        refine ly_iald (v := (nI (tl (k + 1)))) S hI 18 rfl (by omega) (by decide) rfl dX5_costBy_26 ?_
        refine lv_iload S.1 S.2.1 dX5_costBy_27 (lv_at hl 0 rfl) ?_
        refine lv_bipush (v := (-9)) S.1 S.2.1 dX5_costBy_29 (by decide) ?_
        refine ly_cmne (tgt := 39) S (fun q => q) (fun q => q) dX5_costBy_31 (by decide) (fun h2 => ?_) (fun h2 => ?_)
        · skip
          refine lv_iload S.1 S.2.1 dX5_costBy_39 (lv_at hl 0 rfl) ?_
          refine ly_top (z := (nI (prN pr (k + 1)))) (pp_1 (by omega) h2) ?_
          refine lv_imul S.1 S.2.1 dX5_costBy_41 ?_
          refine ly_top (z := nI ((tl (k + 1)) * (prN pr (k + 1)))) (pk_mul _ _) ?_
          refine lv_iadd S.1 S.2.1 dX5_costBy_42 ?_
          refine ly_top (z := nI ((sumN (fun q => tl (q + 1) * prN pr (q + 1)) k) + ((tl (k + 1)) * (prN pr (k + 1))))) (nI_add _ _) ?_
          refine ly_top (z := (nI (sumN (fun q => tl (q + 1) * prN pr (q + 1)) (k + 1)))) rfl ?_
          refine lv_istore_n (lv' := [(2, .int (nI (sumN (fun q => tl (q + 1) * prN pr (q + 1)) (k + 1)))), (4, .int (ppI pr (k + 1))), (0, .ref (b 17)), (1, .ref (b 2)), (3, .int (nI (k + 1)))]) S.1 S.2.1 dX5_costBy_43 rfl hl (by decide) rfl (fun ls hl => ?_)
          refine lv_iinc (v := nI ((k + 1) + 1)) (lv' := [(3, .int (nI ((k + 1) + 1))), (2, .int (nI (sumN (fun q => tl (q + 1) * prN pr (q + 1)) (k + 1)))), (4, .int (ppI pr (k + 1))), (0, .ref (b 17)), (1, .ref (b 2))]) S.1 S.2.1 dX5_costBy_44 hl (k := 4) rfl (nJ_in _ _) (by decide) rfl (fun ls hl => ?_)
          refine lv_goto (tgt := 4) S.1 S.2.1 dX5_costBy_47 (by decide) ?_
          exact ih4 (k + 1) (by omega) (by omega) _ (lv_sub hl [3, 4, 1, 0] rfl)
        · skip
          refine lv_bipush (v := nI 100) S.1 S.2.1 dX5_costBy_34 (by decide) ?_
          refine lv_goto (tgt := 41) S.1 S.2.1 dX5_costBy_36 (by decide) ?_
          refine ly_top (z := (nI (prN pr (k + 1)))) (by rw [pp_0 gpr (by omega) h2]) ?_
          refine lv_imul S.1 S.2.1 dX5_costBy_41 ?_
          refine ly_top (z := nI ((tl (k + 1)) * (prN pr (k + 1)))) (pk_mul _ _) ?_
          refine lv_iadd S.1 S.2.1 dX5_costBy_42 ?_
          refine ly_top (z := nI ((sumN (fun q => tl (q + 1) * prN pr (q + 1)) k) + ((tl (k + 1)) * (prN pr (k + 1))))) (nI_add _ _) ?_
          refine ly_top (z := (nI (sumN (fun q => tl (q + 1) * prN pr (q + 1)) (k + 1)))) rfl ?_
          refine lv_istore_n (lv' := [(2, .int (nI (sumN (fun q => tl (q + 1) * prN pr (q + 1)) (k + 1)))), (4, .int (ppI pr (k + 1))), (0, .ref (b 17)), (1, .ref (b 2)), (3, .int (nI (k + 1)))]) S.1 S.2.1 dX5_costBy_43 rfl hl (by decide) rfl (fun ls hl => ?_)
          refine lv_iinc (v := nI ((k + 1) + 1)) (lv' := [(3, .int (nI ((k + 1) + 1))), (2, .int (nI (sumN (fun q => tl (q + 1) * prN pr (q + 1)) (k + 1)))), (4, .int (ppI pr (k + 1))), (0, .ref (b 17)), (1, .ref (b 2))]) S.1 S.2.1 dX5_costBy_44 hl (k := 4) rfl (nJ_in _ _) (by decide) rfl (fun ls hl => ?_)
          refine lv_goto (tgt := 4) S.1 S.2.1 dX5_costBy_47 (by decide) ?_
          exact ih4 (k + 1) (by omega) (by omega) _ (lv_sub hl [3, 4, 1, 0] rfl)
  exact L4 _ 0 (by omega) (Nat.lt_succ_self _) _ (lv_sub hl [2, 3, 1, 0] rfl)
theorem kX5_costBy {p : Program} {l : Launch} {e : Env} {R : Room} {s : State} {m : MethodId} {args : Array Value} {below : List Frame} {meth : Method} {c : Code} {H : Heap} {locs : List Loc} {cells slots : Nat} {Q : State → Prop} {cc : ByteArray} {nL index pc : Nat} {own : String} {ls : Array Slot} {rest : List Value} {D : va_G} {K : Nat → ClassId} {b : Nat → Nat} {w n lap : Nat} {op mu ba la en : Nat → Nat} {pr : Nat → Option Nat} {fr : Bool} {co : Nat → Nat → Nat} {cw cj : Nat → Int64} {cl : Nat} {rv : Int64} {rc : Nat} {pj : Nat → Nat → Nat} {pw ch : Nat → Nat} {pl lc : Nat} {tl : Nat → Nat} (S : CallFix p m c cc nL s args lw_tb own) (hI : PI D K (cW K b w n lap op mu ba la en pr fr co cw cj cl rv rc pj pw ch pl lc tl) s H) (hG : GOK w n lap op mu ba la en pr) (hlink : Cond.methodLink own index yX5_costBy ∈ lw_tb) (hR : RO 1 R cells slots) (hsz : ls.size = nL) (hW : (rest.map fun v => v.category).sum ≤ 8) (hdg : decode cc pc = .ok (.invokevirtual index, 3)) (kk : W p l e R s m args below meth c H locs cells slots Q (F0 m (pc + 3) ls (.int (nI (sumN (fun q => tl (q + 1) * prN pr (q + 1)) 10)) :: rest))) : W p l e R s m args below meth c H locs cells slots Q (F0 m pc ls (.ref (b 2) :: .ref (b 17) :: rest)) :=
  kV (As := [.ref (b 2)]) (b := b 17) S (mX5_costBy l hG) hlink tw_554 tw_555 tw_49 tw_556 (by show _ ∧ _ ∧ _ = some 1; decide +kernel) (by decide) hR blP (piU hI) (va_recv hI.2 hI.1 (ci := 5) (q0 := 17) rfl rfl) hsz rfl hW hdg kk

set_option maxHeartbeats 4000000 in
set_option maxRecDepth 100000 in
theorem mX5_wholeBricks (l : Launch) {D : va_G} {K : Nat → ClassId} {b : Nat → Nat} {w n lap : Nat} {op mu ba la en : Nat → Nat} {pr : Nat → Option Nat} {fr : Bool} {co : Nat → Nat → Nat} {cw cj : Nat → Int64} {cl : Nat} {rv : Int64} {rc : Nat} {pj : Nat → Nat → Nat} {pw ch : Nat → Nat} {pl lc : Nat} {tl : Nat → Nat} (hG : GOK w n lap op mu ba la en pr) (ht : ∀ q, tl q ≤ 1000) : Met l yX5_wholeBricks (TWd yX5_wholeBricks cX5_wholeBricks 6 (some .int)) (rmk 1) (va_Pc [.ref (b 17)] (fun U => PI D K (cW K b w n lap op mu ba la en pr fr co cw cj cl rv rc pj pw ch pl lc tl) U U.heap)) (QcRead (nI (ctF (tl 1) (tl 2) (tl 3) (tl 4)))) 0 0 (fun _ => False) := by
  refine mt_of (by decide +kernel) (Nat.le_of_ble_eq_true rfl) ?_
  intro p e s m below meth c S hr hlk hI ls hl
  have S : CallFix p m c cX5_wholeBricks 6 s ([.ref (b 17)] : List Value).toArray lw_tb RX5 := S
  have hl : lv_has ls 6 [(0, .ref (b 17))] := hl
  obtain ⟨gw1, gw2, gn, gl1, gl2, gop, gmu, gba, gla, gen, gpr, gop2, gmu2, gba2, gla2, gme, gbe, gle, gee⟩ := id hG
  have t1 := ht 1
  have t2 := ht 2
  have t3 := ht 3
  have t4 := ht 4
  refine lv_aload_n S.1 S.2.1 dX5_wholeBricks_0 rfl (lv_at hl 0 rfl) ?_
  refine lv_iconst (v := nI 3) S.1 S.2.1 dX5_wholeBricks_1 (by decide) ?_
  refine kX5_of S hI hG (by omega) tw_579 (rok (by decide)) hl.1 (Nat.le_of_ble_eq_true rfl) dX5_wholeBricks_2 ?_
  refine lv_istore_n (lv' := [(1, .int (nI (tl 3))), (0, .ref (b 17))]) S.1 S.2.1 dX5_wholeBricks_5 rfl hl (by decide) rfl (fun ls hl => ?_)
  refine lv_aload_n S.1 S.2.1 dX5_wholeBricks_6 rfl (lv_at hl 1 rfl) ?_
  refine lv_iconst (v := nI 2) S.1 S.2.1 dX5_wholeBricks_7 (by decide) ?_
  refine kX5_of S hI hG (by omega) tw_579 (rok (by decide)) hl.1 (Nat.le_of_ble_eq_true rfl) dX5_wholeBricks_8 ?_
  refine lv_istore_n (lv' := [(2, .int (nI (tl 2))), (1, .int (nI (tl 3))), (0, .ref (b 17))]) S.1 S.2.1 dX5_wholeBricks_11 rfl hl (by decide) rfl (fun ls hl => ?_)
  refine lv_aload_n S.1 S.2.1 dX5_wholeBricks_12 rfl (lv_at hl 2 rfl) ?_
  refine lv_iconst (v := nI 4) S.1 S.2.1 dX5_wholeBricks_13 (by decide) ?_
  refine kX5_of S hI hG (by omega) tw_579 (rok (by decide)) hl.1 (Nat.le_of_ble_eq_true rfl) dX5_wholeBricks_14 ?_
  refine lv_iload_n S.1 S.2.1 dX5_wholeBricks_17 rfl (lv_at hl 1 rfl) ?_
  refine lv_iadd S.1 S.2.1 dX5_wholeBricks_18 ?_
  refine ly_top (z := nI ((tl 4) + (tl 3))) (nI_add _ _) ?_
  refine lv_iload_n S.1 S.2.1 dX5_wholeBricks_19 rfl (lv_at hl 0 rfl) ?_
  refine lv_iconst (v := nI 1) S.1 S.2.1 dX5_wholeBricks_20 (by decide) ?_
  refine lv_iadd S.1 S.2.1 dX5_wholeBricks_21 ?_
  refine ly_top (z := nI ((tl 2) + 1)) (nI_add _ _) ?_
  refine lv_iconst (v := nI 2) S.1 S.2.1 dX5_wholeBricks_22 (by decide) ?_
  refine lv_idiv S.1 S.2.1 dX5_wholeBricks_23 (by decide) ?_
  refine ly_top (z := nI (((tl 2) + 1) / 2)) (pk_div (by omega) (by omega) (by omega)) ?_
  refine lv_iadd S.1 S.2.1 dX5_wholeBricks_24 ?_
  refine ly_top (z := nI (((tl 4) + (tl 3)) + (((tl 2) + 1) / 2))) (nI_add _ _) ?_
  refine lv_istore_n (lv' := [(3, .int (nI (((tl 4) + (tl 3)) + (((tl 2) + 1) / 2)))), (2, .int (nI (tl 2))), (1, .int (nI (tl 3))), (0, .ref (b 17))]) S.1 S.2.1 dX5_wholeBricks_25 rfl hl (by decide) rfl (fun ls hl => ?_)
  refine lv_iload_n S.1 S.2.1 dX5_wholeBricks_26 rfl (lv_at hl 2 rfl) ?_
  refine lv_iload_n S.1 S.2.1 dX5_wholeBricks_27 rfl (lv_at hl 1 rfl) ?_
  refine lv_iconst (v := nI 2) S.1 S.2.1 dX5_wholeBricks_28 (by decide) ?_
  refine lv_irem S.1 S.2.1 dX5_wholeBricks_29 (by decide) ?_
  refine ly_top (z := nI ((tl 2) % 2)) (nI_rem (by omega) (by omega) (by omega)) ?_
  refine lv_iconst (v := nI 2) S.1 S.2.1 dX5_wholeBricks_30 (by decide) ?_
  refine lv_imul S.1 S.2.1 dX5_wholeBricks_31 ?_
  refine ly_top (z := nI (((tl 2) % 2) * 2)) (pk_mul _ _) ?_
  refine lv_iadd S.1 S.2.1 dX5_wholeBricks_32 ?_
  refine ly_top (z := nI ((tl 3) + (((tl 2) % 2) * 2))) (nI_add _ _) ?_
  refine lv_istore (lv' := [(4, .int (nI ((tl 3) + (((tl 2) % 2) * 2)))), (3, .int (nI (((tl 4) + (tl 3)) + (((tl 2) + 1) / 2)))), (2, .int (nI (tl 2))), (1, .int (nI (tl 3))), (0, .ref (b 17))]) S.1 S.2.1 dX5_wholeBricks_33 hl (by decide) rfl (fun ls hl => ?_)
  refine lv_iconst (v := nI 0) S.1 S.2.1 dX5_wholeBricks_35 (by decide) ?_
  refine lv_aload_n S.1 S.2.1 dX5_wholeBricks_36 rfl (lv_at hl 4 rfl) ?_
  refine lv_iconst (v := nI 1) S.1 S.2.1 dX5_wholeBricks_37 (by decide) ?_
  refine kX5_of S hI hG (by omega) tw_579 (rok (by decide)) hl.1 (Nat.le_of_ble_eq_true rfl) dX5_wholeBricks_38 ?_
  refine lv_iload S.1 S.2.1 dX5_wholeBricks_41 (lv_at hl 0 rfl) ?_
  refine lv_isub S.1 S.2.1 dX5_wholeBricks_43 ?_
  refine ly_max0 S tw_580 (rok (by decide)) hl.1 (Nat.le_of_ble_eq_true rfl) (by omega) (by omega) dX5_wholeBricks_44 ?_
  refine lv_istore (lv' := [(5, .int (nI ((tl 1) - ((tl 3) + (((tl 2) % 2) * 2))))), (4, .int (nI ((tl 3) + (((tl 2) % 2) * 2)))), (3, .int (nI (((tl 4) + (tl 3)) + (((tl 2) + 1) / 2)))), (2, .int (nI (tl 2))), (1, .int (nI (tl 3))), (0, .ref (b 17))]) S.1 S.2.1 dX5_wholeBricks_47 hl (by decide) rfl (fun ls hl => ?_)
  refine lv_iload_n S.1 S.2.1 dX5_wholeBricks_49 rfl (lv_at hl 2 rfl) ?_
  refine lv_iload S.1 S.2.1 dX5_wholeBricks_50 (lv_at hl 0 rfl) ?_
  refine lv_iconst (v := nI 4) S.1 S.2.1 dX5_wholeBricks_52 (by decide) ?_
  refine lv_iadd S.1 S.2.1 dX5_wholeBricks_53 ?_
  refine ly_top (z := nI (((tl 1) - ((tl 3) + (((tl 2) % 2) * 2))) + 4)) (nI_add _ _) ?_
  refine lv_iconst (v := nI 1) S.1 S.2.1 dX5_wholeBricks_54 (by decide) ?_
  refine lv_isub S.1 S.2.1 dX5_wholeBricks_55 ?_
  refine ly_top (z := nI ((((tl 1) - ((tl 3) + (((tl 2) % 2) * 2))) + 4) - 1)) (pk_sub (by omega)) ?_
  refine lv_iconst (v := nI 4) S.1 S.2.1 dX5_wholeBricks_56 (by decide) ?_
  refine lv_idiv S.1 S.2.1 dX5_wholeBricks_57 (by decide) ?_
  refine ly_top (z := nI (((((tl 1) - ((tl 3) + (((tl 2) % 2) * 2))) + 4) - 1) / 4)) (pk_div (by omega) (by omega) (by omega)) ?_
  refine lv_iadd S.1 S.2.1 dX5_wholeBricks_58 ?_
  refine ly_top (z := nI ((((tl 4) + (tl 3)) + (((tl 2) + 1) / 2)) + (((((tl 1) - ((tl 3) + (((tl 2) % 2) * 2))) + 4) - 1) / 4))) (nI_add _ _) ?_
  exact rt_i S hr hlk (congrArg nI (by unfold ctF; omega)) dX5_wholeBricks_59
theorem kX5_wholeBricks {p : Program} {l : Launch} {e : Env} {R : Room} {s : State} {m : MethodId} {args : Array Value} {below : List Frame} {meth : Method} {c : Code} {H : Heap} {locs : List Loc} {cells slots : Nat} {Q : State → Prop} {cc : ByteArray} {nL index pc : Nat} {own : String} {ls : Array Slot} {rest : List Value} {D : va_G} {K : Nat → ClassId} {b : Nat → Nat} {w n lap : Nat} {op mu ba la en : Nat → Nat} {pr : Nat → Option Nat} {fr : Bool} {co : Nat → Nat → Nat} {cw cj : Nat → Int64} {cl : Nat} {rv : Int64} {rc : Nat} {pj : Nat → Nat → Nat} {pw ch : Nat → Nat} {pl lc : Nat} {tl : Nat → Nat} (S : CallFix p m c cc nL s args lw_tb own) (hI : PI D K (cW K b w n lap op mu ba la en pr fr co cw cj cl rv rc pj pw ch pl lc tl) s H) (hG : GOK w n lap op mu ba la en pr) (ht : ∀ q, tl q ≤ 1000) (hlink : Cond.methodLink own index yX5_wholeBricks ∈ lw_tb) (hR : RO 1 R cells slots) (hsz : ls.size = nL) (hW : (rest.map fun v => v.category).sum ≤ 8) (hdg : decode cc pc = .ok (.invokevirtual index, 3)) (kk : W p l e R s m args below meth c H locs cells slots Q (F0 m (pc + 3) ls (.int (nI (ctF (tl 1) (tl 2) (tl 3) (tl 4))) :: rest))) : W p l e R s m args below meth c H locs cells slots Q (F0 m pc ls (.ref (b 17) :: rest)) :=
  kV (As := []) (b := b 17) S (mX5_wholeBricks l hG ht) hlink tw_576 tw_577 tw_49 tw_578 (by show _ ∧ _ ∧ _ = some 0; decide +kernel) (by decide) hR blP (piU hI) (va_recv hI.2 hI.1 (ci := 5) (q0 := 17) rfl rfl) hsz rfl hW hdg kk
