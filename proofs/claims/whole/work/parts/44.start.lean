/-! THE CLAIM OUT OF ONE WALK OF THE LAW'S BODY. Your part is whole_start (and what it stands on); all else here is the same for every law, but numbers. -/
def R_law : String := "BondedWallLaw"
def lw_P (b : Addr) (xs : List Int32) (args : Array Value) (s : State) : Prop := args = #[.ref b] ∧ s.IntsAt b xs ∧ xs.length ≤ 2048 ∧ (Jvm.Cond.and given_1 narrow_1).before args s = true
def lw_Q (_ : Array Value) (s : State) (o : Outcome) (t : State) : Prop := o = .returned (some (.int 1)) ∧ Framed s o t [] 600000 7302250
def lw_Z (below : List Frame) (a : Array Value) (s : State) : State → Prop := fun t => ∃ o, t.status = .running ∧ Ended t below o ∧ lw_Q a s o t
/-- the law's own end, with 1 on the stack, nothing written that was there before, its room as the claim has it -/
theorem lw_ret {p : Program} {l : Launch} {e : Env} {s : State} {m : MethodId} {below : List Frame} {meth : Method} {c : Code} {b : Nat} (hx : p.tables.exec = Jvm.exec) (hb : c.code = code) (hr : meth.sig.returnType = ret) (hlocks : meth.locks = false) {pc : Nat} {H : Heap} {ls : Array Slot} (hdg : decode code pc = .ok (.ireturn, 1)) : W p l e room_1 s m #[Value.ref b] below meth c H [] 600000 7302250 (lw_Z below #[Value.ref b] s) (F0 m pc ls [.int 1]) := by
  intro T hT X
  obtain ⟨fs, hret, hrun, hended, hW, hframe⟩ := X.leave (v := some (.int 1)) (hlocks := hlocks) (fun h => by rw [hr] at h; cases h)
  have hmeth' : T.vm.method? m = some meth := X.method'
  refine ⟨T.setFrames fs, ?_, .returned (some (.int 1)), hrun, hended, rfl, ⟨_, rfl⟩, hW, hframe⟩
  jvm_step X.here [X.here.top, hx, hb, hdg, hmeth', hr, ret, narrow_b1]
  (try refine ⟨rfl, ?_⟩); (try refine ⟨rfl, ?_⟩)
  first | (intro acts; rw [hret _ acts rfl rfl rfl]) | rw [hret _ _ rfl rfl rfl]
  exact Steps.refl _
/-- what holds at the law's entry: the machine, the code, the tables' words (any of lw_tbl by 'hts w (by decide +kernel)'), the script of L ints xs at the cell b, what the Statement gives of the start (any of its parts by flat_of_before) -/
def lw_At (p : Program) (s : State) (m : MethodId) (meth : Method) (c : Code) (b L : Nat) (xs : Nat → Int32) : Prop :=
  p.tables.exec = Jvm.exec ∧ c.code = code ∧ meth.sig.returnType = ret ∧ c.maxLocals = 4 ∧ s.vm.findClass R_law = some m.cls ∧ (∀ w ∈ lw_tbl, w.before #[Value.ref b] s = true) ∧ va_X b L xs s s.heap ∧ b < s.heap.size ∧ meth.locks = false ∧ (Jvm.Cond.and given_1 narrow_1).before #[Value.ref b] s = true
theorem PI_l {D : va_G} {K : Nat → ClassId} {w1 w2 : va_W} {s : State} {H : Heap} (h : PI D K (w1 ++ w2) s H) : PI D K w1 s H := ⟨fun k q hk => h.1 k q (by rw [List.getElem?_append_left (List.getElem?_eq_some_iff.mp hk).1]; exact hk), h.2⟩
theorem PI_r {D : va_G} {K : Nat → ClassId} {w1 w2 : va_W} {s : State} {H : Heap} (h : PI D K (w1 ++ w2) s H) : PI D K w2 s H := ⟨fun k q hk => h.1 (w1.length + k) q (by rw [List.getElem?_append_right (by omega), Nat.add_sub_cancel_left]; exact hk), h.2⟩
theorem at_fst {ws : va_W} {a : Nat → Nat} {N i : Nat} (hm : ws.map Prod.fst = (List.range N).map a) (hi : i < N) : ∃ e, ws[i]? = some (a i, e) := by
  have h2 : (ws.map Prod.fst)[i]? = some (a i) := by rw [hm, List.getElem?_map, List.getElem?_range hi]; rfl
  rw [List.getElem?_map] at h2
  cases h3 : ws[i]? with
  | none => rw [h3] at h2; cases h2
  | some q =>
    rw [h3] at h2
    have : q.1 = a i := Option.some.inj h2
    exact ⟨q.2, by rw [← this]⟩
theorem dis_l {A : Nat → Prop} {w1 w2 : va_W} {a : Nat → Nat} {N : Nat} (hD : va_D A (w1 ++ w2)) (hm : w1.map Prod.fst = (List.range N).map a) : Dis a N := by
  intro i j hi hj e
  obtain ⟨x, hx⟩ := at_fst hm hi
  obtain ⟨y, hy⟩ := at_fst hm hj
  exact hD.1 i j _ _ (by rw [List.getElem?_append_left (List.getElem?_eq_some_iff.mp hx).1]; exact hx) (by rw [List.getElem?_append_left (List.getElem?_eq_some_iff.mp hy).1]; exact hy) e
theorem dis_r {A : Nat → Prop} {w1 w2 : va_W} {a : Nat → Nat} {N : Nat} (hD : va_D A (w1 ++ w2)) (hm : w2.map Prod.fst = (List.range N).map a) : Dis a N := by
  intro i j hi hj e
  obtain ⟨x, hx⟩ := at_fst hm hi
  obtain ⟨y, hy⟩ := at_fst hm hj
  have := hD.1 (w1.length + i) (w1.length + j) _ _ (by rw [List.getElem?_append_right (by omega), Nat.add_sub_cancel_left]; exact hx) (by rw [List.getElem?_append_right (by omega), Nat.add_sub_cancel_left]; exact hy) e
  omega
theorem dis_x {A : Nat → Prop} {w1 w2 : va_W} {a b : Nat → Nat} {N M : Nat} (hD : va_D A (w1 ++ w2)) (hm1 : w1.map Prod.fst = (List.range N).map b) (hm2 : w2.map Prod.fst = (List.range M).map a) : ∀ i j, i < M → j < N → a i ≠ b j := by
  intro i j hi hj e
  obtain ⟨x, hx⟩ := at_fst hm2 hi
  obtain ⟨y, hy⟩ := at_fst hm1 hj
  have h1 := (List.getElem?_eq_some_iff.mp hy).1
  have := hD.1 (w1.length + i) j _ _ (by rw [List.getElem?_append_right (by omega), Nat.add_sub_cancel_left]; exact hx) (by rw [List.getElem?_append_left h1]; exact hy) e
  omega
theorem ge_l {A : Nat → Prop} {w1 w2 : va_W} {a : Nat → Nat} {N : Nat} (hD : va_D A (w1 ++ w2)) (hm : w1.map Prod.fst = (List.range N).map a) : ∀ i, i < N → A (a i) := by
  intro i hi
  obtain ⟨x, hx⟩ := at_fst hm hi
  exact hD.2 i _ (by rw [List.getElem?_append_left (List.getElem?_eq_some_iff.mp hx).1]; exact hx)
theorem ge_r {A : Nat → Prop} {w1 w2 : va_W} {a : Nat → Nat} {N : Nat} (hD : va_D A (w1 ++ w2)) (hm : w2.map Prod.fst = (List.range N).map a) : ∀ i, i < N → A (a i) := by
  intro i hi
  obtain ⟨x, hx⟩ := at_fst hm hi
  exact hD.2 (w1.length + i) _ (by rw [List.getElem?_append_right (by omega), Nat.add_sub_cancel_left]; exact hx)
theorem GOK_0 : GOK 8 0 1 z0 z0 z0 z0 e126 pr0 := by
  refine ⟨by decide, by decide, by decide, by decide, by decide, fun _ => Nat.le_of_ble_eq_true rfl, fun _ => Nat.le_of_ble_eq_true rfl, fun _ => Nat.le_of_ble_eq_true rfl, fun _ => Nat.le_of_ble_eq_true rfl, fun _ => Nat.le_of_ble_eq_true rfl, ?_, fun i h => absurd h (Nat.not_lt_zero _), fun i h => absurd h (Nat.not_lt_zero _), fun i h => absurd h (Nat.not_lt_zero _), fun i h => absurd h (Nat.not_lt_zero _), fun _ => rfl, fun _ => rfl, fun _ => rfl, fun _ => (show 126 % 2 = 0 from rfl)⟩
  intro i q h
  unfold pr0 at h
  split at h
  · cases h; decide
  · split at h
    · cases h; decide
    · split at h
      · cases h; decide
      · split at h
        · cases h; decide
        · split at h
          · cases h; decide
          · cases h; decide
theorem SOK_0 : SOK sc0 := by
  refine ⟨fun i => Nat.le_of_ble_eq_true rfl, fun i => Nat.le_of_ble_eq_true rfl, fun i => Or.inr ?_, fun i => Nat.le_of_ble_eq_true rfl⟩
  show 0 + 1000 * min (i / 512) 7 ≤ 8000
  omega
abbrev cs0 : CSc := (false, fun _ _ => 0, fun _ => 0, fun _ => 0, 0, 1, 0, fun _ _ => 0, z0, z0, 0, 0, z0)
theorem VOK_0 : VOKu 8 0 z0 z0 z0 e126 pr0 cs0 := by
  refine ⟨?_, fun h => absurd h (by decide), by decide, fun h => absurd h (by decide), by decide, ?_, fun _ => Nat.le_of_ble_eq_true rfl, fun _ => Nat.le_of_ble_eq_true rfl, by decide, fun h => absurd h (by decide), fun _ => Nat.le_of_ble_eq_true rfl⟩
  · intro c q; exact Nat.zero_le _
  · intro c q; exact Nat.zero_le _
theorem len_lt {args : Array Value} {s : State} {tm : Term} {a : Addr} {cell : Cell} {v : Value} (h : (Term.length tm).eval args s none [] s = some v) (ht : tm.eval args s none [] s = some (.ref a)) (hat : s.arrayAt? a = some cell) : cell.slots.size < 2 ^ 31 := by
  by_cases hb : cell.slots.size < 2 ^ 31
  · exact hb
  · simp [Term.eval, ht, hat, hb] at h
    try omega
theorem st_of {K : Nat → ClassId} {args : Array Value} {s : State} (hK0 : s.vm.findClass "[I" = some (K 0)) (hts : ∀ w ∈ lw_tbl, w.before args s = true) (hgv : (Jvm.Cond.and given_1 narrow_1).before args s = true) : ST K (fun q => s.heap.size ≤ q) s s.heap := by
  have hs := flat_of_before _ hgv
  have hA : ∀ a : Nat, a < s.heap.size → ¬ (fun q : Nat => s.heap.size ≤ q) a := fun a h => Nat.not_le.mpr h
  have hlen := va_eqt (hs (Cond.eq (.length (Term.static "BondedWall" "FIRST_PRICES" "[I")) (.int 7)) (by decide +kernel))
  have hex : (Cond.exactly (Term.static "BondedWall" "FIRST_PRICES" "[I") "[I").before args s = true := hs _ (by decide +kernel)
  have hel : ∀ j : Nat, j < 7 → (Term.elem (Term.static "BondedWall" "FIRST_PRICES" "[I") (.int (Int32.ofNat j))).eval args s none [] s = some (.int (pz (-9) pr0 j)) := by
    intro j hj
    rcases (show j = 0 ∨ j = 1 ∨ j = 2 ∨ j = 3 ∨ j = 4 ∨ j = 5 ∨ j = 6 by omega) with rfl | rfl | rfl | rfl | rfl | rfl | rfl
    · exact va_eqt (hs (Cond.eq (.elem (Term.static "BondedWall" "FIRST_PRICES" "[I") (.int 0)) (.int (-9))) (by decide +kernel))
    · exact va_eqt (hs (Cond.eq (.elem (Term.static "BondedWall" "FIRST_PRICES" "[I") (.int 1)) (.int 3)) (by decide +kernel))
    · exact va_eqt (hs (Cond.eq (.elem (Term.static "BondedWall" "FIRST_PRICES" "[I") (.int 2)) (.int 2)) (by decide +kernel))
    · exact va_eqt (hs (Cond.eq (.elem (Term.static "BondedWall" "FIRST_PRICES" "[I") (.int 3)) (.int 2)) (by decide +kernel))
    · exact va_eqt (hs (Cond.eq (.elem (Term.static "BondedWall" "FIRST_PRICES" "[I") (.int 4)) (.int 0)) (by decide +kernel))
    · exact va_eqt (hs (Cond.eq (.elem (Term.static "BondedWall" "FIRST_PRICES" "[I") (.int 5)) (.int 5)) (by decide +kernel))
    · exact va_eqt (hs (Cond.eq (.elem (Term.static "BondedWall" "FIRST_PRICES" "[I") (.int 6)) (.int 6)) (by decide +kernel))
  have harr : (Cond.arrayOf (Term.static "BondedWall" "FIRST_PRICES" "[I") .int).before args s = true := hs _ (by decide +kernel)
  obtain ⟨t, ht, cell, c1, c2, c3, c4, c5, c6, c7⟩ := va_Tof (N := 7) (f := fun j => .int (pz (-9) pr0 j)) (by decide) harr hlen hel hA
  obtain ⟨t', cC, cell', kC, x1, x2, x3, x4, x5, x6, -⟩ := Cond.exactly_spec hex
  have e1 : Value.ref t = Value.ref t' := Option.some.inj (ht.symm.trans x1)
  cases e1
  have e2 : cell = cell' := Option.some.inj (c1.symm.trans x3)
  subst e2
  have ecl : cell.cls = K 0 := by rw [x6]; exact Option.some.inj (x2.symm.trans hK0)
  have hsize : cell.slots.size = 7 := by
    obtain ⟨t2, cell2, y1, y2, y3⟩ := Term.length_spec hlen
    have e3 : Value.ref t = Value.ref t2 := Option.some.inj (ht.symm.trans y1)
    cases e3
    have hb : cell2.slots.size < 2 ^ 31 := len_lt hlen y1 y2
    have e4 : cell = cell2 := Option.some.inj (c1.symm.trans (State.arrayAt?_spec y2).1)
    subst e4
    have h8 : (cell.slots.size.toInt32).toInt = (Int32.ofNat 7).toInt := by rw [c5]
    rw [show cell.slots.size.toInt32 = nI cell.slots.size from rfl, nI_toInt hb] at h8
    have h7 : (Int32.ofNat 7).toInt = 7 := by decide
    omega
  refine ⟨t, va_Zof (hts _ tn_76) (hts _ (tb_all _ tw_42)) ht hA, c7, cell, c1, ecl, ?_, x5, c3⟩
  apply Array.ext_getElem?
  intro j
  show cell.slots[j]? = (arrV (K 0) 7 (fun j => .int (pz (-9) pr0 j))).slots[j]?
  by_cases hj : j < 7
  · rw [c6 j hj, arrV_read _ _ hj]
  · rw [Array.getElem?_eq_none (by omega), Array.getElem?_eq_none (by rw [arrV_size]; omega)]
set_option maxRecDepth 100000 in
theorem whole_start {p : Program} {e : Env} {s : State} {m : MethodId} {below : List Frame} {meth : Method} {c : Code} (l : Launch) (hflags : l.flags = flags0) {b L : Nat} {xs : Nat → Int32} (hL : L ≤ 2048) (C0 : lw_At p s m meth c b L xs) : W p l e room_1 s m #[Value.ref b] below meth c s.heap [] 0 0 (lw_Z below #[Value.ref b] s) (entryFrame m ([Value.ref b] : List Value).toArray 4) := by
  obtain ⟨hx, hb, hr, hml, hown, hts, hX, hbl, hlocks, hgv⟩ := id C0
  have S : CallFix p m c cL_law 4 s #[Value.ref b] lw_tb RL := ⟨hx, hb, hml, hown, fun w h => hts w (tb_all w h)⟩
  have hA : ∀ q : Nat, s.heap.size ≤ q → (fun q : Nat => s.heap.size ≤ q) q := fun _ h => h
  obtain ⟨c0, iS0, hKn0⟩ := u_known (C := RX0) (T := TX0) (N := 2) (n := 2) S.2.2.2.2 inX0 (S.2.2.2.2 _ tw_70)
  obtain ⟨c1, iS1, hKn1⟩ := u_known (C := RX1) (T := TX1) (N := 7) (n := 7) S.2.2.2.2 inX1 (S.2.2.2.2 _ tw_166)
  obtain ⟨c2, iS2, hKn2⟩ := u_known (C := RX2) (T := TX2) (N := 4) (n := 4) S.2.2.2.2 inX2 (S.2.2.2.2 _ tw_97)
  obtain ⟨c3, iS3, hKn3⟩ := u_known (C := RX3) (T := TX3) (N := 7) (n := 7) S.2.2.2.2 inX3 (S.2.2.2.2 _ tw_197)
  obtain ⟨c4, iS4, hKn4⟩ := u_known (C := RX4) (T := TX4) (N := 3) (n := 3) S.2.2.2.2 inX4 (S.2.2.2.2 _ tw_149)
  obtain ⟨c5, iS5, hKn5⟩ := u_known (C := RX5) (T := TX5) (N := 1) (n := 1) S.2.2.2.2 inX5 (S.2.2.2.2 _ tw_227)
  obtain ⟨c6, iS6, hKn6⟩ := u_known (C := RX6) (T := TX6) (N := 6) (n := 6) S.2.2.2.2 inX6 (S.2.2.2.2 _ tw_64)
  obtain ⟨c7, iS7, hKn7⟩ := u_known (C := RX7) (T := TX7) (N := 5) (n := 5) S.2.2.2.2 inX7 (S.2.2.2.2 _ tw_56)
  obtain ⟨c8, iS8, hKn8⟩ := u_known (C := RX8) (T := TX8) (N := 15) (n := 15) S.2.2.2.2 inX8 (S.2.2.2.2 _ tw_602)
  obtain ⟨D, hKc⟩ : ∃ D : va_G, ∀ (k : Nat) (q : vw_C), cls[k]? = some q → u_Kn s q.1 q.2.1 q.2.2 (D.1 k) (D.2 k) := by
    refine ⟨(fun k => match k with | 0 => c0 | 1 => c1 | 2 => c2 | 3 => c3 | 4 => c4 | 5 => c5 | 6 => c6 | 7 => c7 | _ => c8, fun k => match k with | 0 => iS0 | 1 => iS1 | 2 => iS2 | 3 => iS3 | 4 => iS4 | 5 => iS5 | 6 => iS6 | 7 => iS7 | _ => iS8), ?_⟩
    intro k q hq
    match k, hq with
    | 0, hq => cases hq; exact hKn0
    | 1, hq => cases hq; exact hKn1
    | 2, hq => cases hq; exact hKn2
    | 3, hq => cases hq; exact hKn3
    | 4, hq => cases hq; exact hKn4
    | 5, hq => cases hq; exact hKn5
    | 6, hq => cases hq; exact hKn6
    | 7, hq => cases hq; exact hKn7
    | 8, hq => cases hq; exact hKn8
    | k + 9, hq => simp [cls] at hq
  obtain ⟨k0, kk0, km0, a01, a02, a03⟩ := Cond.arrayClass_spec (S.2.2.2.2 _ tw_94)
  obtain ⟨k1, kk1, km1, a11, a12, a13⟩ := Cond.arrayClass_spec (S.2.2.2.2 _ tw_195)
  obtain ⟨k2, kk2, km2, a21, a22, a23⟩ := Cond.arrayClass_spec (S.2.2.2.2 _ tw_653)
  obtain ⟨km3, k3, kk3, b31, b32, b33, b34, b35⟩ := Cond.arrayOver_spec (hts _ tn_96)
  obtain ⟨km4, k4, kk4, b41, b42, b43, b44, b45⟩ := arrayOverA_spec (hts _ tn_84)
  obtain ⟨K, hK⟩ : ∃ K : Nat → ClassId, va_K D cls (tyl K) s := by
    refine ⟨fun i => match i with | 0 => k0 | 1 => k1 | 2 => k2 | 3 => k3 | _ => k4, hKc, ?_⟩
    intro k q hq
    match k, hq with
    | 0, hq => cases hq; exact ⟨fun n z => ⟨(fun _ h => by cases h), kk0, a02, km0, a03⟩, a01⟩
    | 1, hq => cases hq; exact ⟨fun n z => ⟨(fun _ h => by cases h), kk1, a12, km1, a13⟩, a11⟩
    | 2, hq => cases hq; exact ⟨fun n z => ⟨(fun _ h => by cases h), kk2, a22, km2, a23⟩, a21⟩
    | 3, hq => cases hq; exact ⟨fun n z => ⟨(fun _ h => by cases h), kk3, b33, km3, b34⟩, kk3, km3, b33, b34, b31, b35⟩
    | 4, hq => cases hq; exact ⟨fun n z => ⟨(fun _ h => by cases h), kk4, b43, km4, b44⟩, b45⟩
    | k + 5, hq => simp [tyl] at hq
  have hNK : NK s := ⟨va_Nw.of rfl (hts _ tn_71), va_Nw.of rfl (hts _ tn_98), va_Nw.of rfl (hts _ tn_228), va_Nw.of rfl (hts _ tn_75), va_Nw.of rfl (hts _ tn_82), va_AO.of (hts _ tn_96), hts _ tn_84⟩
  have hST : ST K (fun q => s.heap.size ≤ q) s s.heap := st_of (va_nm_int (hK.2 0 _ rfl).2) hts hgv
  have hS : va_S (fun q : Nat => s.heap.size ≤ q) s.heap s.heap [] := va_S.rf
  have hI : PI D K [] s s.heap := ⟨fun k q h => by simp at h, hK⟩
  have hD : va_D (fun q : Nat => s.heap.size ≤ q) [] := ⟨fun i j p q h => by simp at h, fun k q h => by simp at h⟩
  have hl := lv_entry ([.ref b]) (n := 4) (Nat.le_of_ble_eq_true rfl)
  rw [lg_entry_eq]
  generalize (lg_sl ([.ref b]) ++ List.replicate (4 - (lg_sl ([.ref b])).length) Slot.unset).toArray = ls at hl ⊢
  have hl : lv_has ls 4 [(0, .ref b)] := hl
  refine n7 (fs := [.null, .null, .null, .null, .null]) S hI hD hS hA tw_55 tw_56 tw_42 (fun j hj => by rcases (show j = 0 ∨ j = 1 ∨ j = 2 ∨ j = 3 ∨ j = 4 by omega) with rfl | rfl | rfl | rfl | rfl <;> rfl) (Nat.le_of_ble_eq_true rfl) (Nat.le_of_ble_eq_true rfl) dL_law_0 (fun q0 H hI hD hS => ?_)
  replace hI : PI D K [(q0, .inr (7, [.null, .null, .null, .null, .null]))] s H := hI
  replace hD : va_D (fun q : Nat => s.heap.size ≤ q) [(q0, .inr (7, [.null, .null, .null, .null, .null]))] := hD
  refine lv_dup S.1 S.2.1 dL_law_3 rfl ?_
  refine kI (wr := []) (As := []) (b := q0) S (mX7_init l q0 H.size) tw_57 tw_58 tw_42 tw_59 rfl (by show _ ∧ _ ∧ _ = some 0; decide +kernel) (by decide) (ro_c (Nat.le_of_ble_eq_true rfl) (Nat.le_of_ble_eq_true rfl) (Nat.le_of_ble_eq_true rfl) (Nat.le_of_ble_eq_true rfl)) (fun U V e1 e2 h => ⟨h.1.same e2, by rw [e1]; exact h.2.moved (by rw [e2]; exact Vm.Alike.refl _)⟩) (fun U hU hWm => ⟨hNK.warm hWm, by rw [hU]; exact ((hST.kept (fun q h1 h2 => hS.2.1 q h1 h2)).narrow (va_free (wc := [(q0, .inr (7, [.null, .null, .null, .null, .null]))]) hD hS hA [0] rfl)).moved hWm.alike⟩) hI hD hS hA [0] [] rfl rfl rfl (by decide) hl.1 rfl (Nat.le_of_ble_eq_true rfl) dL_law_4 (fun u H locs hI hD hS => ?_)
  replace hI : PI D K (cW K (bz q0 u) 8 0 1 z0 z0 z0 z0 e126 pr0 false (fun _ _ => 0) (fun _ => 0) (fun _ => 0) 0 1 0 (fun _ _ => 0) z0 z0 0 0 z0) s H := hI
  replace hD : va_D (fun q : Nat => s.heap.size ≤ q) (cW K (bz q0 u) 8 0 1 z0 z0 z0 z0 e126 pr0 false (fun _ _ => 0) (fun _ => 0) (fun _ => 0) 0 1 0 (fun _ _ => 0) z0 z0 0 0 z0) := hD
  refine lv_astore_n (lv' := [(1, .ref q0), (0, .ref b)]) S.1 S.2.1 dL_law_7 rfl hl (by decide) rfl (fun ls hl => ?_)
  refine n8 (fs := [.int 0, .int 0, .null, .null, .null, .null, .null, .null, .int 0, .null, .null, .null, .null, .null, .null]) S hI hD hS hA tw_601 tw_602 tw_50 (fun j hj => by rcases (show j = 0 ∨ j = 1 ∨ j = 2 ∨ j = 3 ∨ j = 4 ∨ j = 5 ∨ j = 6 ∨ j = 7 ∨ j = 8 ∨ j = 9 ∨ j = 10 ∨ j = 11 ∨ j = 12 ∨ j = 13 ∨ j = 14 by omega) with rfl | rfl | rfl | rfl | rfl | rfl | rfl | rfl | rfl | rfl | rfl | rfl | rfl | rfl | rfl <;> rfl) (Nat.le_of_ble_eq_true rfl) (Nat.le_of_ble_eq_true rfl) dL_law_8 (fun q1 H hI hD hS => ?_)
  refine lv_dup S.1 S.2.1 dL_law_11 rfl ?_
  refine kI (wr := cW K (bz q0 u) 8 0 1 z0 z0 z0 z0 e126 pr0 false (fun _ _ => 0) (fun _ => 0) (fun _ => 0) 0 1 0 (fun _ _ => 0) z0 z0 0 0 z0) (As := []) (b := q1) S (mX8_init l q1 H.size) tw_603 tw_604 tw_50 tw_605 rfl (by show _ ∧ _ ∧ _ = some 0; decide +kernel) (by decide) (ro_c (Nat.le_of_ble_eq_true rfl) (Nat.le_of_ble_eq_true rfl) (Nat.le_of_ble_eq_true rfl) (Nat.le_of_ble_eq_true rfl)) (fun _ _ _ _ h => h) (fun _ _ _ => trivial) hI hD hS hA [44] [0, 1, 2, 3, 4, 5, 6, 7, 8, 9, 10, 11, 12, 13, 14, 15, 16, 17, 18, 19, 20, 21, 22, 23, 24, 25, 26, 27, 28, 29, 30, 31, 32, 33, 34, 35, 36, 37, 38, 39, 40, 41, 42, 43] rfl rfl rfl (by decide) hl.1 rfl (Nat.le_of_ble_eq_true rfl) dL_law_12 (fun u2 H locs hI hD hS => ?_)
  replace hI : PI D K (cW K (bz q0 u) 8 0 1 z0 z0 z0 z0 e126 pr0 false (fun _ _ => 0) (fun _ => 0) (fun _ => 0) 0 1 0 (fun _ _ => 0) z0 z0 0 0 z0 ++ mW K (bz q1 u2) 8 0 1 z0 z0 z0 z0 e126 pr0 sc0) s H := hI
  replace hD : va_D (fun q : Nat => s.heap.size ≤ q) (cW K (bz q0 u) 8 0 1 z0 z0 z0 z0 e126 pr0 false (fun _ _ => 0) (fun _ => 0) (fun _ => 0) 0 1 0 (fun _ _ => 0) z0 z0 0 0 z0 ++ mW K (bz q1 u2) 8 0 1 z0 z0 z0 z0 e126 pr0 sc0) := hD
  refine lv_astore_n (lv' := [(2, .ref q1), (1, .ref q0), (0, .ref b)]) S.1 S.2.1 dL_law_15 rfl hl (by decide) rfl (fun ls hl => ?_)
  refine lv_iconst (v := nI 0) S.1 S.2.1 dL_law_16 (by decide) ?_
  refine lv_istore_n (lv' := [(3, .int (nI 0)), (2, .ref q1), (1, .ref q0), (0, .ref b)]) S.1 S.2.1 dL_law_17 rfl hl (by decide) rfl (fun ls hl => ?_)
  refine W.widen (k := 600000) (n := 7302250) (Nat.le_of_ble_eq_true rfl) (Nat.le_of_ble_eq_true rfl) ?_
  have hlc : LC p s m c b L xs (bz q1 u2) (bz q0 u) := ⟨S, hX, hbl, dis_r hD rfl, dis_l hD rfl, dis_x hD rfl rfl, ge_r hD rfl, ge_l hD rfl⟩
  exact law_loop (K := K) (D := D) hlc hL (fun H locs ls hS => va_forget (fun q hq => hS.2.2 q hq) (lw_ret hx hb hr hlocks dL_law_724)) (L + 1) 0 H locs ls (by omega) (by decide) ⟨8, 0, 1, z0, z0, z0, z0, e126, pr0, sc0, cs0, GOK_0, SOK_0, VOK_0, PI_r hI, PI_l hI, hS⟩ (lv_sub hl [3, 2, 1, 0] rfl)
set_option maxHeartbeats 4000000 in
theorem lw_walk (l : Launch) (hflags : l.flags = flags0) (b : Addr) (xs : List Int32) : MetFree l x (headSpec (Jvm.Cond.code x code maxLocals ret :: tables_1) room_1) (lw_P b xs) (fun _ _ _ _ _ => True) lw_Q := by
  refine MetFree.of_bodyS (code := code) (maxLocals := maxLocals) (ret := ret) (by decide) ?_ ?_
  · intro args s m h hn
    obtain ⟨meth, c, h1, h2, h3, h4, h5, h6, -, -⟩ := Cond.code_spec hn (atoms_spec (ws := Jvm.Cond.code x code maxLocals ret :: tables_1) h _ List.mem_cons_self)
    exact ⟨meth, c, h1, h2, h3, h4, h5, h6⟩
  · intro p e s m args below meth c s₁ B hml0 hP _
    obtain ⟨rfl, hx, hbd, hgv⟩ := hP
    obtain ⟨scr, harrAt, hlist, hof, hsmall⟩ := hx
    obtain ⟨hcb, hkn, -, -⟩ := State.arrayAt?_spec harrAt
    have hown : s.vm.findClass R_law = some m.cls := findClass_of_methodNamed B.named
    have hts0 : ∀ c ∈ (Jvm.Cond.code x code maxLocals ret :: tables_1), c.before #[Value.ref b] s = true := atoms_spec (ws := Jvm.Cond.code x code maxLocals ret :: tables_1) B.pre
    have hts : ∀ w ∈ lw_tbl, w.before #[Value.ref b] s = true := k2_hts_sels lw_privs (fun w hw => hts0 w (List.mem_cons_of_mem _ hw)) lw_privs_ok
    have hml : c.maxLocals = 4 := B.maxLocals_eq (hts0 _ List.mem_cons_self)
    have X₀ : Stand p l e room_1 s m #[Value.ref b] below meth c s₁ [] 0 0 := Stand.of_body B
    have hh0 : s₁.heap = s.heap := by rw [B.state]; rfl
    have hsz : scr.slots.size = xs.length := by rw [← Array.length_toList, hlist, List.length_map]
    have hval : ∀ j : Nat, j < xs.length → scr.slots[j]? = some (.int (xs.getD j 0)) := fun j hj => by
      rw [← Array.getElem?_toList, hlist]
      simp [hj]
    have hbl : b < s.heap.size := (Array.getElem?_eq_some_iff.mp hcb).1
    have hX : va_X b xs.length (fun j => xs.getD j 0) s s.heap := ⟨scr, hcb, hof, hkn, hsz, hval⟩
    have K : W p l e room_1 s m #[Value.ref b] below meth c s₁.heap [] 0 0 (lw_Z below #[Value.ref b] s) (entryFrame m ([Value.ref b] : List Value).toArray 4) := by
      rw [hh0]
      exact whole_start l hflags hbd ⟨B.exec, B.bytes, B.returns, hml, hown, hts, hX, hbl, B.notSynchronized, hgv⟩
    obtain ⟨t, a1, o, b1, b2, b3⟩ := K s₁ rfl X₀
    exact ⟨t, o, a1, b1, b2, b3⟩
theorem lw_pre_spec {args : Array Value} {s : State} (h : (Jvm.Cond.and given_1 narrow_1).before args s = true) (hr : rest_1_c.before args s = true) : ∃ (b : Addr) (xs : List Int32), lw_P b xs args s := by
  have hs := flat_of_before _ h
  have hq := flat_of_before _ hr
  have hc : (Cond.count 1).before args s = true := hs _ (by decide +kernel)
  have harr : (Cond.arrayOf (.arg 0) .int).before args s = true := hs _ (by decide +kernel)
  have hle : (Cond.le (.length (.arg 0)) (.int 2048)).before args s = true := hs _ (by decide +kernel)
  have hlen : (Cond.isInt (.length (.arg 0))).before args s = true := hq _ (by decide +kernel)
  have hall : (Cond.all (.arg 0) (.isInt (.elem (.arg 0) (.index 0)))).before args s = true := hq _ (by decide +kernel)
  obtain ⟨b, xs, hb, hx⟩ := State.ints_of_pre rfl harr hlen hall
  have hsm : xs.length < 2 ^ 31 := hx.choose_spec.2.2.2
  have hev : (Term.length (.arg 0)).eval args s none [] s = some (.int xs.length.toInt32) := hx.length_eval hb
  have hv := Cond.le_ints hev (show (Term.int 2048).eval args s none [] s = some (.int 2048) from rfl)
  have hd : xs.length.toInt32 ≤ 2048 := by
    simpa [Cond.before, Cond.holds, hv] using hle
  have hN : xs.length ≤ 2048 := (Int32.ofNat_le_ofNat hsm (by decide)).mp (show Int32.ofNat xs.length ≤ Int32.ofNat 2048 from hd)
  exact ⟨b, xs, Cond.one_arg hc (show args[0]? = some (.ref b) from hb), hx, hN, h⟩
theorem lw_comes (l : Launch) (hflags : l.flags = flags0) : Comes l x (Jvm.Cond.code x code maxLocals ret :: tables_1) room_1 (fun tb e args s => Calls_1 tb e args s ∧ rest_1 tb e args s ∧ Pre_1 tb e args s)
    (fun _ _ args s o t => lw_Q args s o t) := by
  intro p e ha hc hk s m args below hf hfit hheap happ hpre
  obtain ⟨b, xs, hP⟩ := lw_pre_spec hpre.2.2 hpre.2.1
  obtain ⟨k, o, h1, h2, h3, hQ⟩ := lw_walk l hflags b xs p e ha hc hk s m args below hf ((Spec.applies_iff_loose hf).mp happ).1 hP trivial
  exact ⟨k, o, h1, h2, h3, hQ⟩
theorem lw_frame {s t : State} {o : Outcome} {args : Array Value} (h : Framed s o t [] 600000 7302250) :
    Framed s o t (fieldLocs frame_1_writes args s ++ arrayLocs frame_1_arrays args s ++ staticLocs frame_1_statics s) 600000 7302250 := h
theorem lw_limb (L : Cond) (hL : ∀ (args : Array Value) (s t : State), L.after args s (.returned (some (.int 1))) t = true) :
    ArmFor flags0 classFile x code maxLocals ret World_1 tables_1 room_1 Calls_1 rest_1 Pre_1
      (fun tb e a s o t => postC L tb e a s o t ∧ Framed s o t (fieldLocs frame_1_writes a s ++ arrayLocs frame_1_arrays a s ++ staticLocs frame_1_statics s) 600000 7302250) := by
  intro l hflags _ _ p e ha hc hk s m args below hf hfit hheap happ hpre
  obtain ⟨k, o, h1, h2, h3, rfl, hF⟩ := lw_comes l hflags p e ha hc hk s m args below hf hfit hheap happ hpre
  exact ⟨k, _, h1, h2, h3, hL args s _, lw_frame hF⟩
theorem i_vc : Claimed_1_1 ∧ Claimed_1_2 := ⟨lw_limb limb_1_1 (fun args s t => by simp [limb_1_1, Cond.after, Cond.holds, Cond.value]), lw_limb limb_1_2 (fun args s t => Cond.after_iff.mpr (by
  first | (rw [show limb_1_2 = Cond.eq .result (.int 1) from rfl, Cond.eq_ints (x := 1) (y := 1) rfl rfl]; simp; done) | (simp [limb_1_2, Cond.value, Term.eval]; done)))⟩

