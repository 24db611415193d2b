/-! rows for constructors -/
def va_AOA (t : FieldType) (U : State) : Prop := (Cond.arrayOver (.array t)).before #[] U = true
theorem va_AOA.use {t : FieldType} {A : Array Value} {U : State} (h : va_AOA t U) : (Cond.arrayOver (.array t)).before A U = true := h
theorem aoa_mv {t : FieldType} {u U : State} (hvm : u.vm.Alike U.vm) (h : va_AOA t u) : va_AOA t U := by
  obtain ⟨comp, c, k, h1, h2, h3, h4, h5⟩ := arrayOverA_spec h
  obtain ⟨k', hk', he⟩ := hvm.2.2 _ _ h3
  have hi : (U.vm.classes.findIdx? fun (x : Class) => match x.kind with | .array component _ => component == comp | _ => false) = some c := by
    have a1 := va_idx_bare U.vm comp
    have a2 := va_idx_bare u.vm comp
    have a3 : U.vm.bare = u.vm.bare := by first | exact hvm.bare_eq | exact hvm.bare_eq.symm
    rw [a3] at a1
    exact Eq.trans (Eq.symm a1) (Eq.trans a2 h2)
  have hkind : k'.kind = .array comp (.array t) := by rw [he]; exact h4
  have f1 : U.vm.findClass (FieldType.array t).toString = some comp := by rw [hvm.findClass]; exact h1
  have f2 : U.vm.findClass ("[" ++ (FieldType.array t).toString) = some c := by rw [hvm.findClass]; exact h5
  unfold va_AOA Cond.before Cond.holds
  simp only [Cond.value]
  rw [f1, Option.bind_some]
  refine (congrArg (fun o : Option Nat => (o.bind (fun c => (U.vm.classes[c]?).map fun (k : Class) => match k.kind with | .array _ ty => decide (ty = FieldType.array t) && decide (U.vm.findClass ("[" ++ (FieldType.array t).toString) = some c) | _ => false) == some true)) hi).trans ?_
  simp [hk', hkind, f2]
/-! ===== BEGIN new T[n][m]: the outer array a place, the inner ones among the pooled ===== -/
/-- f, but v at every address of l -/
def vr_up {α : Type} (f : Nat → α) (l : List Nat) (v : α) : Nat → α := fun a => if a ∈ l then v else f a
theorem vr_up_in {α : Type} {f : Nat → α} {l : List Nat} {v : α} {a : Nat} (h : a ∈ l) : vr_up f l v a = v := if_pos h
theorem vr_up_ne {α : Type} {f : Nat → α} {l : List Nat} {v : α} {a : Nat} (h : a ∉ l) : vr_up f l v a = f a := if_neg h
theorem vr_rows {L l : List Nat} {f : Nat → va_E} {e : va_E} (h : ∀ a, a ∈ l → a ∉ L) : va_pl L f ++ l.map (fun a => (a, e)) = va_pl (L ++ l) (vr_up f l e) := by
  unfold va_pl
  rw [List.map_append]
  congr 1
  · apply List.map_congr_left
    intro a ha
    rw [vr_up_ne (fun q => h a q ha)]
  · apply List.map_congr_left
    intro a ha
    rw [vr_up_in ha]
theorem vr_lay {X rows : va_W} {x : Nat × va_E} {pl : va_W} {D : va_G} {cl : List vw_C} {H : Heap} (hP : va_P D cl (((X ++ pl) ++ [x]) ++ rows) H) : va_P D cl ((X ++ [x]) ++ (pl ++ rows)) H := by
  rw [List.append_assoc (X ++ pl)] at hP
  have h := va_P.swap hP
  rw [← List.append_assoc X] at h
  have h2 := va_P.swap h
  rw [List.append_assoc (X ++ [x])] at h2
  exact h2
theorem vr_layD {X rows : va_W} {x : Nat × va_E} {pl : va_W} {A : Nat → Prop} (hD : va_D A (((X ++ pl) ++ [x]) ++ rows)) : va_D A ((X ++ [x]) ++ (pl ++ rows)) := by
  rw [List.append_assoc (X ++ pl)] at hD
  have h := va_D.swap hD
  rw [← List.append_assoc X] at h
  have h2 := va_D.swap h
  rw [List.append_assoc (X ++ [x])] at h2
  exact h2
theorem vr_outer (c : ClassId) (N h0 : Nat) : ∀ i : Nat, Jvm.Free.Multi.outerC c N h0 i = arrV c N (fun j => va_rf (if j < i then some (h0 + 1 + j) else none))
  | 0 => by
    show ({ cls := c, slots := Array.replicate N .null, vm := .none } : Cell) = _
    rw [arrV_new]
    refine congrArg (arrV c N) (funext fun j => ?_)
    simp [va_rf]
  | i + 1 => by
    show (Jvm.Free.Multi.outerC c N h0 i).setSlot i (.ref (h0 + 1 + i)) = _
    rw [vr_outer c N h0 i, arrV_store]
    refine congrArg (arrV c N) (funext fun j => ?_)
    by_cases e : j = i
    · subst e
      simp [updV, va_rf]
    · by_cases h : j < i
      · simp [updV, e, h, Nat.lt_succ_of_lt h]
      · simp [updV, e, h, show ¬ j < i + 1 by omega]
section VGM
variable {p : Program} {l : Launch} {e : Env} {R : Room} {s : State} {m : MethodId} {args : Array Value} {below : List Frame} {meth : Method} {c : Code} {H : Heap} {locs : List Loc} {cells slots : Nat} {Q : State → Prop}
variable {cc : ByteArray} {pc : Nat} {ls : Array Slot} {rest : List Value} {D : va_G} {cl : List vw_C} {A : Nat → Prop} {a : Nat} {tys : List (ClassId × FieldType)} {ws : va_W} {H0 : Heap}
theorem va_mna {X : va_W} {L : List Nat} {f : Nat → va_E} {cc : ByteArray} (hexec : p.tables.exec = Jvm.exec) (hb : c.code = cc) {own : String} {index : Nat} {ty : FieldType} {cy : ClassId} (hown : s.vm.findClass own = some m.cls) (hclink : (Cond.classLink own index ("[" ++ (FieldType.array ty).toString)).before args s = true) (hover : va_AOA ty s) (harr : (Cond.arrayClass ty).before args s = true) (hcy : s.vm.findClass (FieldType.array ty).toString = some cy)
    (hK : va_K D cl tys s) (hP : va_P D cl (X ++ va_pl L f) H) (hD : va_D A (X ++ va_pl L f)) (hS : va_S A H0 H locs) (hA : ∀ q, H0.size ≤ q → A q) {n k : Int32} {N' K' : Nat} {z : vp_A} (hn : ¬ n < 0) (hk : ¬ k < 0) (hN : n.toNatClampNeg = N') (hM : k.toNatClampNeg = K')
    (hb1 : N' * 4 ≤ 536870912) (hb2 : K' * componentBytes ty ≤ 536870912) (hb3 : K' ≤ 536870912) (hdf : fits ty (defaultValue ty) = true) (hdd : (defaultValue ty).isDefault = true) (hcells : cells + (1 + N') ≤ R.cells) (hslots : slots + (N' + N' * K') ≤ R.slots) (hz : ∀ c : ClassId, Jvm.Free.Multi.innerC c K' (defaultValue ty) = vp_cell c z) (hdg : decode cc pc = .ok (.multianewarray index 2, 4))
    (kk : ∀ (q : Nat) (r : Nat → Nat) (cA : ClassId) (H1 : Heap), (∀ i j : Nat, i < N' → j < N' → r i = r j → i = j) → (∀ i : Nat, i < N' → r i ∉ L) → va_K D cl (tys ++ [(cA, .array ty)]) s →
      va_P D cl ((X ++ [(q, .inl (cA, N', .inr (.inr (.inr (.inr (fun i => if i < N' then some (r i) else none))))))]) ++ va_pl (L ++ (List.range N').map r) (vr_up f ((List.range N').map r) (.inl (cy, z)))) H1 → va_D A ((X ++ [(q, .inl (cA, N', .inr (.inr (.inr (.inr (fun i => if i < N' then some (r i) else none))))))]) ++ va_pl (L ++ (List.range N').map r) (vr_up f ((List.range N').map r) (.inl (cy, z)))) → va_S A H0 H1 locs →
      W p l e R s m args below meth c H1 locs (cells + 1 + N') (slots + N' + N' * K') Q (F0 m (pc + 4) ls (.ref q :: rest))) : W p l e R s m args below meth c H locs cells slots Q (F0 m pc ls (.int k :: .int n :: rest)) := by
  subst hN
  subst hM
  intro T hT Xs
  obtain ⟨vm₁, cA, comp, -, fA, fC, hO, -, X', step⟩ := Xs.multianewarray2F hexec hown hclink (va_AOA.use hover) harr (g := F0 m pc ls (.int k :: .int n :: rest)) rfl (by rw [hb]; exact hdg) rfl hn hk hb1 hb2 hb3 hdf hdd hcells hslots
  have ec : some cy = some comp := hcy.symm.trans fC
  cases ec
  generalize hF : Jvm.Free.Multi.fill (T.setVm vm₁) cA cy n.toNatClampNeg k.toNatClampNeg (defaultValue ty) n.toNatClampNeg = F at X' step
  have hTh : (T.setVm vm₁).heap = H := hT
  obtain ⟨f1, f2, -, -⟩ := Jvm.Free.Multi.fill_facts (T.setVm vm₁) cA cy n.toNatClampNeg k.toNatClampNeg (defaultValue ty) n.toNatClampNeg
  rw [hF, hTh] at f1 f2
  have hold : ∀ x : Nat, x < H.size → F.heap[x]? = H[x]? := fun x hx => by
    have := Jvm.Free.Multi.fill_old (T.setVm vm₁) cA cy n.toNatClampNeg k.toNatClampNeg (defaultValue ty) (a := x) (by rw [hTh]; exact hx) n.toNatClampNeg
    rw [hF, hTh] at this
    exact this
  have hrow : ∀ j : Nat, j < n.toNatClampNeg → F.heap[H.size + 1 + j]? = some (vp_cell cy z) := fun j hj => by
    have := Jvm.Free.Multi.fill_inner (T.setVm vm₁) cA cy n.toNatClampNeg k.toNatClampNeg (defaultValue ty) n.toNatClampNeg j hj
    rw [hF, hTh, hz] at this
    exact this
  have hout : Jvm.Free.Multi.outerC cA n.toNatClampNeg H.size n.toNatClampNeg = vp_cell cA (n.toNatClampNeg, .inr (.inr (.inr (.inr (fun i => if i < n.toNatClampNeg then some (H.size + 1 + i) else none))))) := by
    rw [vp_cell_q]
    exact vr_outer cA n.toNatClampNeg H.size n.toNatClampNeg
  rw [hout] at f2
  have hlt : ∀ a, a ∈ L → a < H.size := fun a ha => by
    obtain ⟨k9, hk9⟩ := va_pl_get (X := X) (f := f) ha
    exact (hP k9 _ hk9).lt
  have hnl : ∀ i : Nat, i < n.toNatClampNeg → H.size + 1 + i ∉ L := fun i _ h => by
    have := hlt _ h
    omega
  have hnm : ∀ a, a ∈ (List.range n.toNatClampNeg).map (fun i => H.size + 1 + i) → a ∉ L := fun a ha h => by
    obtain ⟨i, -, rfl⟩ := List.mem_map.mp ha
    have := hlt _ h
    omega
  have hP0 : va_P D cl (X ++ va_pl L f) F.heap := hP.kept (fun k9 x hx => hold x.1 ((hP k9 x hx).lt))
  have hP1 : va_P D cl ((X ++ va_pl L f) ++ [(H.size, .inl (cA, n.toNatClampNeg, .inr (.inr (.inr (.inr (fun i => if i < n.toNatClampNeg then some (H.size + 1 + i) else none))))))]) F.heap := hP0.app (fun k9 x hx => by
    have h0 : k9 < 1 := (List.getElem?_eq_some_iff.mp hx).1
    rw [show k9 = 0 by omega] at hx
    cases hx
    exact f2)
  have hP2 : va_P D cl (((X ++ va_pl L f) ++ [(H.size, .inl (cA, n.toNatClampNeg, .inr (.inr (.inr (.inr (fun i => if i < n.toNatClampNeg then some (H.size + 1 + i) else none))))))]) ++ ((List.range n.toNatClampNeg).map (fun i => H.size + 1 + i)).map (fun a => (a, .inl (cy, z)))) F.heap := hP1.app (fun k9 x hx => by
    obtain ⟨a, ha, rfl⟩ := List.mem_map.mp (List.mem_of_getElem? hx)
    obtain ⟨i, hi, rfl⟩ := List.mem_map.mp ha
    exact hrow i (List.mem_range.mp hi))
  have hD2 : va_D A (((X ++ va_pl L f) ++ [(H.size, .inl (cA, n.toNatClampNeg, .inr (.inr (.inr (.inr (fun i => if i < n.toNatClampNeg then some (H.size + 1 + i) else none))))))]) ++ ((List.range n.toNatClampNeg).map (fun i => H.size + 1 + i)).map (fun a => (a, .inl (cy, z)))) := by
    have hD1 := hD.push (e := .inl (cA, n.toNatClampNeg, .inr (.inr (.inr (.inr (fun i => if i < n.toNatClampNeg then some (H.size + 1 + i) else none)))))) hP rfl (hA _ hS.1)
    generalize hW1 : (X ++ va_pl L f) ++ [(H.size, .inl (cA, n.toNatClampNeg, .inr (.inr (.inr (.inr (fun i => if i < n.toNatClampNeg then some (H.size + 1 + i) else none))))))] = W1 at hD1 hP1 ⊢
    have hle : ∀ (k9 : Nat) (x : Nat × va_E), W1[k9]? = some x → x.1 ≤ H.size := fun k9 x hx => by
      rw [← hW1] at hx
      by_cases hl : k9 < (X ++ va_pl L f).length
      · rw [List.getElem?_append_left hl] at hx
        exact Nat.le_of_lt ((hP k9 x hx).lt)
      · rw [List.getElem?_append_right (by omega)] at hx
        have h0 : k9 - (X ++ va_pl L f).length < 1 := (List.getElem?_eq_some_iff.mp hx).1
        rw [show k9 - (X ++ va_pl L f).length = 0 by omega] at hx
        cases hx
        exact Nat.le_refl _
    have hr : ∀ (k9 : Nat) (x : Nat × va_E), (((List.range n.toNatClampNeg).map (fun i => H.size + 1 + i)).map (fun a => ((a, .inl (cy, z)) : Nat × va_E)))[k9]? = some x → x.1 = H.size + 1 + k9 := fun k9 x hx => by
      rw [List.getElem?_map, List.getElem?_map] at hx
      by_cases h9 : k9 < n.toNatClampNeg
      · rw [List.getElem?_range h9] at hx
        cases hx
        rfl
      · have hn0 : (List.range n.toNatClampNeg)[k9]? = none := List.getElem?_eq_none (by rw [List.length_range]; omega)
        rw [hn0] at hx
        cases hx
    refine ⟨fun i j x y hi hj hxy => ?_, fun k9 x hx => ?_⟩
    · by_cases h1 : i < W1.length <;> by_cases h2 : j < W1.length
      · rw [List.getElem?_append_left h1] at hi
        rw [List.getElem?_append_left h2] at hj
        exact hD1.1 i j x y hi hj hxy
      · rw [List.getElem?_append_left h1] at hi
        rw [List.getElem?_append_right (by omega)] at hj
        have := hle _ _ hi
        have := hr _ _ hj
        omega
      · rw [List.getElem?_append_right (by omega)] at hi
        rw [List.getElem?_append_left h2] at hj
        have := hle _ _ hj
        have := hr _ _ hi
        omega
      · rw [List.getElem?_append_right (by omega)] at hi hj
        have := hr _ _ hi
        have := hr _ _ hj
        omega
    · by_cases h1 : k9 < W1.length
      · rw [List.getElem?_append_left h1] at hx
        exact hD1.2 k9 x hx
      · rw [List.getElem?_append_right (by omega)] at hx
        have := hr _ _ hx
        exact hA _ (by have := hS.1; omega)
  have hAr : ArrOfT s cA (.array ty) := fun N9 z9 => by
    obtain ⟨-, k9, hk9, cm9, hkk9⟩ := (hO 0 0 0).1
    exact ⟨(fun q hq => by cases hq), k9, hk9, cm9, hkk9⟩
  have hK2 : va_K D cl (tys ++ [(cA, .array ty)]) s := ⟨hK.1, fun k9 x hx => by
    by_cases hl : k9 < tys.length
    · rw [List.getElem?_append_left hl] at hx
      exact hK.2 k9 x hx
    · rw [List.getElem?_append_right (by omega)] at hx
      have h0 : k9 - tys.length < 1 := (List.getElem?_eq_some_iff.mp hx).1
      rw [show k9 - tys.length = 0 by omega] at hx
      cases hx
      exact ⟨hAr, fA⟩⟩
  obtain ⟨t, a1, b1⟩ := kk H.size (fun i => H.size + 1 + i) cA F.heap (fun i j _ _ h => by have h9 : H.size + 1 + i = H.size + 1 + j := h; omega) hnl hK2 (by rw [← vr_rows hnm]; exact vr_lay hP2) (by rw [← vr_rows hnm]; exact vr_layD hD2) ⟨by rw [f1]; have := hS.1; omega, fun x h1 h2 => (hold x (Nat.lt_of_lt_of_le h1 hS.1)).trans (hS.2.1 x h1 h2), hS.2.2⟩ F rfl X'
  refine ⟨t, step t ?_, b1⟩
  have e : T.heap.size = H.size := by rw [hT]
  rw [e]
  exact a1
end VGM
/-! ===== END ===== -/
def rmc (d mc ms : Nat) : Room := { frames := d, cells := mc, slots := ms, locals := 40 * d }
def NK (U : State) : Prop := va_Nw (.methodLinkNest RX6 11 yX0_init "BondedWall") U ∧ va_Nw (.methodLinkNest RX6 24 yX2_init "BondedWall") U ∧ va_Nw (.methodLinkNest RX7 45 yX5_init "BondedWall") U ∧ va_Nw (.fieldLinkNest RX0 9 "BondedWall" "FIRST_PRICES" "[I" "BondedWall") U ∧ va_Nw (.castable "[I" "java/lang/Cloneable") U ∧ va_AO "BondedWall$Course" U ∧ va_AOA .int U
theorem NK.warm {s U : State} (hW : s.WarmedH U.vm) (h : NK s) : NK U := ⟨h.1.warmM hW, h.2.1.warmM hW, h.2.2.1.warmM hW, h.2.2.2.1.warmF hW, h.2.2.2.2.1.warmC hW, h.2.2.2.2.2.1.moved hW.alike, aoa_mv hW.alike h.2.2.2.2.2.2⟩
theorem NK.same {u U : State} (hv : u.vm = U.vm) (h : NK u) : NK U := ⟨va_Nw.same rfl hv h.1, va_Nw.same rfl hv h.2.1, va_Nw.same rfl hv h.2.2.1, va_Nw.same rfl hv h.2.2.2.1, va_Nw.same rfl hv h.2.2.2.2.1, h.2.2.2.2.2.1.moved (by rw [hv]; exact Vm.Alike.refl _), aoa_mv (by rw [hv]; exact Vm.Alike.refl _) h.2.2.2.2.2.2⟩
def pr0 : Nat → Option Nat := fun i => if i = 1 then some 3 else if i = 2 then some 2 else if i = 3 then some 2 else if i = 5 then some 5 else if i = 6 then some 6 else some 0
/-- a row as it lies somewhere, whoever made it -/
def srcC (K : Nat → ClassId) (x : vp_A) (H : Heap) (ad : Nat) : Prop := ∃ cell : Cell, H[ad]? = some cell ∧ cell.cls = K 0 ∧ cell.slots = (vp_cell (K 0) x).slots ∧ cell.vm.isStatics = false ∧ cell.vm ≠ .unknown
/-- the static row of first prices, where nothing of A lies -/
def ST (K : Nat → ClassId) (A : Nat → Prop) (U : State) (H : Heap) : Prop := ∃ t0 : Nat, va_Z "BondedWall" "FIRST_PRICES" "[I" (.ref t0) A U H ∧ ¬ A t0 ∧ srcC K (7, .inl (pz (-9) pr0)) H t0
theorem ST.moved {K : Nat → ClassId} {A : Nat → Prop} {u U : State} {H : Heap} (hvm : u.vm.Alike U.vm) (h : ST K A u H) : ST K A U H := by
  obtain ⟨t0, h1, h2, h3⟩ := h
  exact ⟨t0, h1.moved hvm, h2, h3⟩
theorem ST.kept {K : Nat → ClassId} {A : Nat → Prop} {U : State} {H H1 : Heap} (h : ST K A U H) (hq : ∀ a : Nat, a < H.size → ¬ A a → H1[a]? = H[a]?) : ST K A U H1 := by
  obtain ⟨t0, h1, h2, h3⟩ := h
  obtain ⟨cell, g1, g2⟩ := h3
  exact ⟨t0, h1.kept hq, h2, cell, by rw [hq t0 (Array.getElem?_eq_some_iff.mp g1).1 h2]; exact g1, g2⟩
theorem ST.narrow {K : Nat → ClassId} {A B : Nat → Prop} {U : State} {H : Heap} (h : ST K A U H) (hAB : ∀ q, B q → A q) : ST K B U H := by
  obtain ⟨t0, h1, h2, h3⟩ := h
  exact ⟨t0, h1.narrow hAB, fun z => h2 (hAB _ z), h3⟩
/-- a constructor's start: its object, fresh; its end -/
def BI (D : va_G) (K : Nat → ClassId) (a0 : Nat) (e0 : va_E) (sz : Nat) (X : State → Prop) (U : State) : Prop := U.heap.size = sz ∧ PI D K [(a0, e0)] U U.heap ∧ X U
abbrev QI {σ : Type} (D : va_G) (K : Nat → ClassId) (a0 : Nat) (e0 : va_E) (sz : Nat) (wf : σ → va_W) : Array Value → State → Outcome → State → Prop := va_Qv (fun _ : σ => True) (fun u t => PI D K (wf u) t t.heap ∧ va_D (va_A [(a0, e0)] sz) (wf u)) (va_A [(a0, e0)] sz)
theorem bI_bl {D : va_G} {K : Nat → ClassId} {a0 : Nat} {e0 : va_E} {sz : Nat} {X : State → Prop} {As : List Value} (hX : ∀ (U V : State), V.heap = U.heap → U.vm = V.vm → X U → X V) : FrameBlind (va_Pc As (BI D K a0 e0 sz X)) := fun a U g mk q => ⟨q.1, q.2.1, ⟨q.2.2.1.1, va_K.moved (u := U) (U := U.calling g mk a) (Vm.Alike.refl U.vm) q.2.2.1.2⟩, hX U _ rfl rfl q.2.2.2⟩
theorem mt_ofN {l : Launch} {y : MethodName} {cc : ByteArray} {maxL : Nat} {rm : Room} {As : List Value} {D : va_G} {K : Nat → ClassId} {a0 sz : Nat} {e0 : va_E} {X : State → Prop} {Qc : Array Value → State → Outcome → State → Prop} {mc ms : Nat} {free : Addr → Prop} (hy : plainName y.cls = true) (hlen : (lg_sl As).length ≤ maxL) (hyn : y.name = "<init>")
    (body : ∀ (p : Program) (e : Env) (s : State) (m : MethodId) (below : List Frame) (meth : Method) (c : Code), CallFix p m c cc maxL s As.toArray lw_tb y.cls → meth.sig.returnType = none → meth.locks = false → meth.name = "<init>" → s.heap.size = sz → PI D K [(a0, e0)] s s.heap → X s → ∀ ls : Array Slot, lv_has ls maxL (lv_args 0 As) → W p l e rm s m As.toArray below meth c s.heap [] 0 0 (MQ below Qc As.toArray s mc ms free) (F0 m 0 ls [])) :
    Met l y (TWd y cc maxL none) rm (va_Pc As (BI D K a0 e0 sz X)) Qc mc ms free := by
  refine Met.ofW (cc := cc) (maxL := maxL) (ret := none) hy rfl ?_
  intro p e s m args below meth c s₁ Bd hml hv
  obtain ⟨rfl, hB⟩ := hv
  have hts := atoms_spec (ws := TWd y cc maxL none) Bd.pre
  have hl := lv_entry As (n := maxL) hlen
  rw [lg_entry_eq]
  exact body p e s m below meth c ⟨Bd.exec, Bd.bytes, hml, findClass_of_methodNamed Bd.named, fun w h => hts w (List.mem_cons_of_mem _ h)⟩ Bd.returns Bd.notSynchronized ((name_of_methodNamed Bd.named Bd.method).1.trans hyn) hB.1 hB.2.1 hB.2.2 _ hl
theorem vnm {s : State} {cA cB : ClassId} {ty : FieldType} (h : va_RA s cA ty) (h2 : va_RA s cB ty) : cA = cB := by
  cases ty with
  | object C =>
    obtain ⟨_, _, _, _, _, h4⟩ := h
    obtain ⟨_, _, _, _, _, g4⟩ := h2
    exact Option.some.inj (h4.symm.trans g4)
  | _ => exact Option.some.inj (Eq.trans (Eq.symm h) h2)
theorem arrV_cg {cA : ClassId} {n : Nat} {f g : Nat → Value} (h : ∀ i, i < n → f i = g i) : arrV cA n f = arrV cA n g := by
  unfold arrV
  congr 2
  funext j
  exact h j.val j.isLt
theorem cv_at {D : va_G} {K : Nat → ClassId} {ws ws' : va_W} {s : State} {H : Heap} {ad : Nat} {kA : ClassId} {x x' : vp_A} (hI : PI D K ws s H) (q0 : Nat) (h : ws[q0]? = some (ad, .inl (kA, x))) (hx : vp_cell kA x = vp_cell kA x') (hw : ws.set q0 (ad, .inl (kA, x')) = ws') : PI D K ws' s H := by
  subst hw
  refine ⟨fun k q hq => ?_, hI.2⟩
  rw [List.getElem?_set] at hq
  by_cases e : q0 = k
  · subst e
    have hl := (List.getElem?_eq_some_iff.mp h).1
    rw [if_pos rfl, if_pos hl] at hq
    cases hq
    show H[ad]? = some (vp_cell kA x')
    rw [← hx]
    exact hI.1 q0 _ h
  · rw [if_neg e] at hq
    exact hI.1 k q hq
theorem cq_cg {kA : ClassId} {n : Nat} {f f' : Nat → Option Nat} (h : ∀ i, i < n → f i = f' i) : vp_cell kA (n, .inr (.inr (.inr (.inr f)))) = vp_cell kA (n, .inr (.inr (.inr (.inr f')))) := by
  rw [vp_cell_q, vp_cell_q]
  exact arrV_cg fun i hi => by rw [h i hi]
theorem ci_cg {kA : ClassId} {n : Nat} {f f' : Nat → Int32} (h : ∀ i, i < n → f i = f' i) : vp_cell kA (n, .inl f) = vp_cell kA (n, .inl f') := by
  have e : ∀ g : Nat → Int32, vp_cell kA (n, .inl g) = arrV kA n (fun j => .int (g j)) := fun _ => rfl
  rw [e, e]
  exact arrV_cg fun i hi => by rw [h i hi]
section CN
variable {p : Program} {l : Launch} {e : Env} {R : Room} {s : State} {m : MethodId} {args : Array Value} {below : List Frame} {meth : Method} {c : Code} {H : Heap} {locs : List Loc} {cells slots : Nat} {Q : State → Prop}
variable {cc bytes : ByteArray} {nL maxL index pc d : Nat} {own : String} {y : MethodName} {ls : Array Slot} {As rest st : List Value}
variable {D : va_G} {K : Nat → ClassId} {A : Nat → Prop} {H0 : Heap} {ws : va_W}
theorem cn_obj {a : Nat} (S : CallFix p m c cc nL s args lw_tb own) (hlink : Cond.methodLink own index objectInit ∈ lw_tb) (hsz : ls.size = nL) (hdg : decode cc pc = .ok (.invokespecial index, 3)) (hf : 1 ≤ R.frames) (hl : 12 ≤ R.locals)
    (kk : W p l e R s m args below meth c H locs cells slots Q (F0 m (pc + 3) ls [])) : W p l e R s m args below meth c H locs cells slots Q (F0 m pc ls [.ref a]) := by
  refine W.objInit S.1 S.2.1 S.2.2.2.1 (S.2.2.2.2 _ hlink) (S.2.2.2.2 _ tw_61) (S.2.2.2.2 _ tw_62) rfl (by rw [S.2.2.1]; exact hsz) rfl hdg hf hl ?_
  exact W.eq (g2 := F0 m (pc + 3) ls []) rfl kk
theorem cn_newa {atype : ArrayType} {ty : FieldType} {n : Int32} {N : Nat} {a0 : vp_A} (j : Nat) {kA : ClassId} (S : CallFix p m c cc nL s args lw_tb own) (harr : Cond.arrayClass (newarray.typeOf atype) ∈ lw_tb) (hty : newarray.typeOf atype = ty) (hj : (tyl K)[j]? = some (kA, ty)) (hI : PI D K ws s H) (hD : va_D A ws) (hS : va_S A H0 H locs) (hA : ∀ q, H0.size ≤ q → A q) (ha : ∀ cA : ClassId, vp_cell cA a0 = arrV cA N (fun _ => defaultValue ty)) (hn : ¬ n < 0) (hN : n.toNatClampNeg = N) (hb : N * componentBytes ty ≤ 536870912) (hc : cells + 1 ≤ R.cells) (hs : slots + N ≤ R.slots) (hdg : decode cc pc = .ok (.newarray atype, 2))
    (kk : ∀ (q : Nat) (H1 : Heap), PI D K (ws ++ [(q, .inl (kA, a0))]) s H1 → va_D A (ws ++ [(q, .inl (kA, a0))]) → va_S A H0 H1 locs → W p l e R s m args below meth c H1 locs (cells + 1) (slots + N) Q (F0 m (pc + 2) ls (.ref q :: rest))) : W p l e R s m args below meth c H locs cells slots Q (F0 m pc ls (.int n :: rest)) := by
  refine va_newa (atype := atype) S.1 S.2.1 (S.2.2.2.2 _ harr) hty hI.2 hI.1 hD hS hA ha hn hN hb hc hs hdg (fun q cA H1 hK1 hP1 hD1 hS1 => ?_)
  have e1 : va_RA s cA ty := (hK1.2 5 _ rfl).2
  have e : cA = kA := vnm e1 (hI.2.2 j _ hj).2
  subst e
  exact kk q H1 ⟨hP1, hI.2⟩ hD1 hS1
theorem cn_newA {n : Int32} {N : Nat} (S : CallFix p m c cc nL s args lw_tb own) (hcl : Cond.classLink own index "[I" ∈ lw_tb) (hov : va_AOA .int s) (hI : PI D K ws s H) (hD : va_D A ws) (hS : va_S A H0 H locs) (hA : ∀ q, H0.size ≤ q → A q) (hn : ¬ n < 0) (hN : n.toNatClampNeg = N) (hb : N * 4 ≤ 536870912) (hc : cells + 1 ≤ R.cells) (hs : slots + N ≤ R.slots) (hdg : decode cc pc = .ok (.anewarray index, 3))
    (kk : ∀ (q : Nat) (H1 : Heap), PI D K (ws ++ [(q, .inl (K 4, N, .inr (.inr (.inr (.inr (fun _ => none))))))]) s H1 → va_D A (ws ++ [(q, .inl (K 4, N, .inr (.inr (.inr (.inr (fun _ => none))))))]) → va_S A H0 H1 locs → W p l e R s m args below meth c H1 locs (cells + 1) (slots + N) Q (F0 m (pc + 3) ls (.ref q :: rest))) : W p l e R s m args below meth c H locs cells slots Q (F0 m pc ls (.int n :: rest)) := by
  subst hN
  refine W.anewA (t := .int) S.1 S.2.1 S.2.2.2.1 (show (Cond.classLink own index (FieldType.array .int).toString).before args s = true from (by rw [show (FieldType.array .int).toString = "[I" by decide +kernel]; exact S.2.2.2.2 _ hcl)) (va_AOA.use hov) rfl hdg rfl hn hb hc hs fun cA kA comp f1 f2 f3 f4 => ?_
  generalize hH1 : H.push ({ cls := cA, slots := Array.replicate n.toNatClampNeg .null, vm := .none } : Cell) = H1
  have z1 : H1.size = H.size + 1 := by rw [← hH1, Array.size_push]
  have e1 : H1[H.size]? = some (arrV cA n.toNatClampNeg (fun _ => .null)) := by rw [← hH1, Array.getElem?_push_size, ← arrV_new]
  have o1 : ∀ q : Nat, q < H.size → H1[q]? = H[q]? := fun q hq => by rw [← hH1, Array.getElem?_push, if_neg (Nat.ne_of_lt hq)]
  have ec : cA = K 4 := vnm (ty := .array .int) f1 (hI.2.2 4 _ rfl).2
  subst ec
  refine kk H.size H1 ⟨(hI.1.kept (fun k x hx => o1 x.1 ((hI.1 k x hx).lt))).app (fun k x hx => ?_), hI.2⟩ (hD.push hI.1 rfl (hA _ hS.1)) ⟨Nat.le_trans hS.1 (by omega), fun x h1 h2 => (o1 x (Nat.lt_of_lt_of_le h1 hS.1)).trans (hS.2.1 x h1 h2), hS.2.2⟩
  have hz : k < 1 := (List.getElem?_eq_some_iff.mp hx).1
  rw [show k = 0 by omega] at hx
  cases hx
  exact e1
theorem cn_newq {n : Int32} {N : Nat} (S : CallFix p m c cc nL s args lw_tb own) (hcl : Cond.classLink own index "BondedWall$Course" ∈ lw_tb) (hov : va_AO "BondedWall$Course" s) (hI : PI D K ws s H) (hD : va_D A ws) (hS : va_S A H0 H locs) (hA : ∀ q, H0.size ≤ q → A q) (hn : ¬ n < 0) (hN : n.toNatClampNeg = N) (hb : N * 4 ≤ 536870912) (hc : cells + 1 ≤ R.cells) (hs : slots + N ≤ R.slots) (hdg : decode cc pc = .ok (.anewarray index, 3))
    (kk : ∀ (q : Nat) (H1 : Heap), PI D K (ws ++ [(q, .inl (K 3, N, .inr (.inr (.inr (.inr (fun _ => none))))))]) s H1 → va_D A (ws ++ [(q, .inl (K 3, N, .inr (.inr (.inr (.inr (fun _ => none))))))]) → va_S A H0 H1 locs → W p l e R s m args below meth c H1 locs (cells + 1) (slots + N) Q (F0 m (pc + 3) ls (.ref q :: rest))) : W p l e R s m args below meth c H locs cells slots Q (F0 m pc ls (.int n :: rest)) := by
  refine va_newq S.1 S.2.1 S.2.2.2.1 (S.2.2.2.2 _ hcl) hov hI.2 hI.1 hD hS hA hn hN hb hc hs hdg (fun q cA H1 hK1 hP1 hD1 hS1 => ?_)
  have e1 : va_RA s cA (.object "BondedWall$Course") := (hK1.2 5 _ rfl).2
  have e : cA = K 3 := vnm e1 (hI.2.2 3 _ rfl).2
  subst e
  exact kk q H1 ⟨hP1, hI.2⟩ hD1 hS1
theorem cn_mna {z : vp_A} (S : CallFix p m c cc nL s args lw_tb own) (hcl : Cond.classLink own index "[[I" ∈ lw_tb) (hov : va_AOA .int s) (harr : Cond.arrayClass .int ∈ lw_tb) (hI : PI D K ws s H) (hD : va_D A ws) (hS : va_S A H0 H locs) (hA : ∀ q, H0.size ≤ q → A q) {n k : Int32} {N M : Nat} (hn : ¬ n < 0) (hk : ¬ k < 0) (hN : n.toNatClampNeg = N) (hM : k.toNatClampNeg = M) (hb1 : N * 4 ≤ 536870912) (hb2 : M * 4 ≤ 536870912) (hc : cells + (1 + N) ≤ R.cells) (hs : slots + (N + N * M) ≤ R.slots) (hz : ∀ c : ClassId, Jvm.Free.Multi.innerC c M (defaultValue .int) = vp_cell c z) (hdg : decode cc pc = .ok (.multianewarray index 2, 4))
    (kk : ∀ (q : Nat) (r : Nat → Nat) (H1 : Heap), PI D K ((ws ++ [(q, .inl (K 4, N, .inr (.inr (.inr (.inr (fun i => if i < N then some (r i) else none))))))]) ++ (List.range N).map (fun i => (r i, .inl (K 0, z)))) s H1 → va_D A ((ws ++ [(q, .inl (K 4, N, .inr (.inr (.inr (.inr (fun i => if i < N then some (r i) else none))))))]) ++ (List.range N).map (fun i => (r i, .inl (K 0, z)))) → va_S A H0 H1 locs → W p l e R s m args below meth c H1 locs (cells + 1 + N) (slots + N + N * M) Q (F0 m (pc + 4) ls (.ref q :: rest))) : W p l e R s m args below meth c H locs cells slots Q (F0 m pc ls (.int k :: .int n :: rest)) := by
  have e0 : ws ++ va_pl [] (fun _ => (.inl (K 0, z) : va_E)) = ws := by unfold va_pl; simp
  refine va_mna (X := ws) (L := []) (f := fun _ => .inl (K 0, z)) (ty := .int) (cy := K 0) (z := z) S.1 S.2.1 S.2.2.2.1 (by rw [show ("[" ++ (FieldType.array .int).toString) = "[[I" by decide +kernel]; exact S.2.2.2.2 _ hcl) hov (S.2.2.2.2 _ harr) (by have := (hI.2.2 0 _ rfl).2; exact this) hI.2 (by rw [e0]; exact hI.1) (by rw [e0]; exact hD) hS hA hn hk hN hM hb1 hb2 (by omega) rfl rfl hc hs hz hdg (fun q r cA H1 hr1 hr2 hK1 hP1 hD1 hS1 => ?_)
  have e1 : va_RA s cA (.array .int) := (hK1.2 5 _ rfl).2
  have e : cA = K 4 := vnm e1 (hI.2.2 4 _ rfl).2
  subst e
  have e2 : va_pl ([] ++ (List.range N).map r) (vr_up (fun _ => (.inl (K 0, z) : va_E)) ((List.range N).map r) (.inl (K 0, z))) = (List.range N).map (fun i => (r i, .inl (K 0, z))) := by
    unfold va_pl
    rw [List.nil_append, List.map_map]
    apply List.map_congr_left
    intro i hi
    show (r i, vr_up _ _ _ (r i)) = _
    rw [vr_up_in (List.mem_map.mpr ⟨i, hi, rfl⟩)]
  rw [e2] at hP1 hD1
  exact kk q r H1 ⟨hP1, hI.2⟩ hD1 hS1
theorem cn_clone {ad : Nat} {x : vp_A} (S : CallFix p m c cc nL s args lw_tb own) (hlink : Cond.methodLink own index ⟨"[I", "clone", "()Ljava/lang/Object;"⟩ ∈ lw_tb) (hsame : Cond.sameMethod "[I" "java/lang/Object" "clone" "()Ljava/lang/Object;" ∈ lw_tb) (hnat : Cond.native ⟨"java/lang/Object", "clone", "()Ljava/lang/Object;"⟩ ∈ lw_tb) (hinst : Cond.instanceMethod ⟨"java/lang/Object", "clone", "()Ljava/lang/Object;"⟩ ∈ lw_tb) (hsel : Cond.selects "[I" ⟨"[I", "clone", "()Ljava/lang/Object;"⟩ ⟨"java/lang/Object", "clone", "()Ljava/lang/Object;"⟩ ∈ lw_tb) (hcl : va_Nw (.castable "[I" "java/lang/Cloneable") s)
    (hI : PI D K ws s H) (hD : va_D A ws) (hS : va_S A H0 H locs) (hA : ∀ q, H0.size ≤ q → A q) (hsrc0 : srcC K x H ad) (hfit : ∀ (i : Nat) (v : Value), (vp_cell (K 0) x).slots[i]? = some v → fits .int v = true) (hsz : ls.size = nL) (hf : 1 ≤ R.frames) (hW : (rest.map fun v => v.category).sum + 14 ≤ R.locals) (hc : cells + 1 ≤ R.cells) (hs : slots + x.1 ≤ R.slots) (hdg : decode cc pc = .ok (.invokevirtual index, 3))
    (kk : ∀ (q : Nat) (H1 : Heap), PI D K (ws ++ [(q, .inl (K 0, x))]) s H1 → va_D A (ws ++ [(q, .inl (K 0, x))]) → va_S A H0 H1 locs → W p l e R s m args below meth c H1 locs (cells + 1) (slots + x.1) Q (F0 m (pc + 3) ls (.ref q :: rest))) : W p l e R s m args below meth c H locs cells slots Q (F0 m pc ls (.ref ad :: rest)) := by
  have hsz1 : (vp_cell (K 0) x).slots.size = x.1 := by
    obtain ⟨n, f | f | f | f | f⟩ := x <;> exact arrV_size _ _ _
  have hcE0 : ({ cls := K 0, slots := (vp_cell (K 0) x).slots } : Cell) = vp_cell (K 0) x := by
    obtain ⟨n, f | f | f | f | f⟩ := x <;> rfl
  obtain ⟨cell, hsrc, hcl0, hsl0, hst0, hkn0⟩ := hsrc0
  have hcE : ({ cls := cell.cls, slots := cell.slots } : Cell) = vp_cell (K 0) x := by rw [hcl0, hsl0]; exact hcE0
  rw [← hsl0] at hfit hsz1
  have hnm : s.vm.findClass "[I" = some (K 0) := va_nm_int (hI.2.2 0 _ rfl).2
  obtain ⟨c0, t0', f1, f2, f3⟩ := Cond.castable_spec (va_Nw.use (A := args) rfl hcl)
  cases hnm.symm.trans f1
  have hAr := (hI.2.2 0 _ rfl).1
  intro T hT X
  obtain ⟨-, kA, hkA, comp, hkind⟩ := State.isArrayOf_alike X.warmed.alike (hAr 0 (fun _ => .null))
  obtain ⟨-, kS, hkS, compS, hkindS⟩ := hAr 0 (fun _ => .null)
  obtain ⟨vm', X', stp⟩ := X.cloneArray S.1 S.2.2.2.1 (S.2.2.2.2 _ hlink) (S.2.2.2.2 _ hsame) (S.2.2.2.2 _ hnat) (S.2.2.2.2 _ hinst) (S.2.2.2.2 _ hsel) (a := ad) (cell := cell) (by rw [hT]; exact hsrc) (fun k h => by rw [h] at hst0; cases hst0) hkn0 (by rw [hcl0]; exact hnm) f2 (by rw [hcl0]; exact f3)
    (fun i v hv => by
      rw [hcl0]
      have hk' : T.vm.classes[K 0]? = some kA := hkA
      simpa [State.fitsSlot, State.slotType?, hk', hkind] using hfit i v hv)
    (g := F0 m pc ls (.ref ad :: rest)) rfl (by rw [S.2.2.1]; exact hsz) rfl (by rw [S.2.1]; exact hdg) hf (by show 2 * 0 + _ + 14 ≤ _; omega) hc (by rw [hsz1]; exact hs) (hloader := by rw [hcl0]; exact Vm.clonesLoader_of_array hkS hkindS)
  rw [hcE, hsz1] at X'
  generalize hH1 : H.push (vp_cell (K 0) x) = H1
  have z1 : H1.size = H.size + 1 := by rw [← hH1, Array.size_push]
  have e1 : H1[H.size]? = some (vp_cell (K 0) x) := by rw [← hH1, Array.getElem?_push_size]
  have o1 : ∀ q : Nat, q < H.size → H1[q]? = H[q]? := fun q hq => by rw [← hH1, Array.getElem?_push, if_neg (Nat.ne_of_lt hq)]
  obtain ⟨t, b1, b2⟩ := kk H.size H1 ⟨(hI.1.kept (fun k x hx => o1 x.1 ((hI.1 k x hx).lt))).app (fun k y hy => by
      have hz : k < 1 := (List.getElem?_eq_some_iff.mp hy).1
      rw [show k = 0 by omega] at hy
      cases hy
      exact e1), hI.2⟩ (hD.push hI.1 rfl (hA _ hS.1)) ⟨Nat.le_trans hS.1 (by omega), fun y h1 h2 => (o1 y (Nat.lt_of_lt_of_le h1 hS.1)).trans (hS.2.1 y h1 h2), hS.2.2⟩
    ((T.setVm vm').pushCell (vp_cell (K 0) x)) (by rw [← hH1, ← hT]; rfl) X'
  refine ⟨t, stp t ?_, b2⟩
  rw [hcE, hT]
  exact b1
theorem cn_astA {ad v n : Nat} {f : Nat → Option Nat} {x : vp_A} {k : Nat} (S : CallFix p m c cc nL s args lw_tb own) (hov : va_AOA .int s) (hI : PI D K ws s H) (hD : va_D A ws) (hS : va_S A H0 H locs) (q0 qk : Nat) (ha : ws[q0]? = some (ad, .inl (K 4, n, .inr (.inr (.inr (.inr f)))))) (hv : ws[qk]? = some (v, .inl (K 0, x))) (hk : k < n) (hn : n < 2 ^ 31) (hdg : decode cc pc = .ok (.aastore, 1))
    (kk : ∀ (H1 : Heap) (locs1 : List Loc), PI D K (ws.set q0 (ad, .inl (K 4, n, .inr (.inr (.inr (.inr (va_up f k (some v)))))))) s H1 → va_D A (ws.set q0 (ad, .inl (K 4, n, .inr (.inr (.inr (.inr (va_up f k (some v)))))))) → va_S A H0 H1 locs1 → W p l e R s m args below meth c H1 locs1 cells slots Q (F0 m (pc + 1) ls rest)) : W p l e R s m args below meth c H locs cells slots Q (F0 m pc ls (.ref v :: .int (nI k) :: .ref ad :: rest)) := by
  have hin : vp_in (nI k) n := vp_in_nI hk hn
  have h0 : ¬ nI k < 0 := fun q => hin (Or.inl q)
  have ecl : (nI k).toNatClampNeg = k := nI_clamp (Nat.lt_trans hk hn)
  obtain ⟨comp, cA, kA, hcomp, -, hkA, hkindA, hnameA⟩ := arrayOverA_spec hov
  have e4 : cA = K 4 := vnm (ty := .array .int) hnameA (hI.2.2 4 _ rfl).2
  subst e4
  have e0 : comp = K 0 := Option.some.inj (hcomp.symm.trans (show s.vm.findClass (FieldType.array .int).toString = some (K 0) from (hI.2.2 0 _ rfl).2))
  subst e0
  obtain ⟨-, kS, hkS, -⟩ := (hI.2.2 0 _ rfl).1 0 (fun _ => .null)
  have hkS : s.vm.classes[K 0]? = some kS := hkS
  have hvm0 : (vp_cell (K 0) x).vm = .none := by
    obtain ⟨n, f | f | f | f | f⟩ := x <;> rfl
  have hcl0 : (vp_cell (K 0) x).cls = K 0 := by
    obtain ⟨n, f | f | f | f | f⟩ := x <;> rfl
  refine W.aast S.1 S.2.1 (hI.1 q0 _ ha) (fun q h => by cases h) (fun h => by cases h) hkA hkindA rfl hkS ⟨h0, by show _ < (arrV _ _ _).slots.size; rw [arrV_size, ecl]; exact hk⟩ (hI.1 qk _ hv) (fun q h => by rw [hvm0] at h; cases h) (by rw [hcl0]; exact hkS) (by rw [hcl0]; exact va_asg _ _) rfl rfl hdg fun H1 e z oq => ?_
  refine kk H1 _ ⟨hI.1.set hD ha ?_ oq, hI.2⟩ (hD.set ha) (hS.put z oq (hD.2 q0 _ ha))
  show H1[ad]? = some (vp_cell _ _)
  rw [e, vp_cell_q, vp_cell_q, arrV_store, ecl]
  congr 2
  funext q
  by_cases hq : q = k
  · subst hq
    simp [updV, va_up, va_rf]
  · simp [updV, va_up, hq]
theorem cn_astq {ad v n : Nat} {f : Nat → Option Nat} {vs : List Value} {k : Nat} (S : CallFix p m c cc nL s args lw_tb own) (hI : PI D K ws s H) (hD : va_D A ws) (hS : va_S A H0 H locs) (q0 qk : Nat) (ha : ws[q0]? = some (ad, .inl (K 3, n, .inr (.inr (.inr (.inr f)))))) (hv : ws[qk]? = some (v, .inr (2, vs))) (hk : k < n) (hn : n < 2 ^ 31) (hdg : decode cc pc = .ok (.aastore, 1))
    (kk : ∀ (H1 : Heap) (locs1 : List Loc), PI D K (ws.set q0 (ad, .inl (K 3, n, .inr (.inr (.inr (.inr (va_up f k (some v)))))))) s H1 → va_D A (ws.set q0 (ad, .inl (K 3, n, .inr (.inr (.inr (.inr (va_up f k (some v)))))))) → va_S A H0 H1 locs1 → W p l e R s m args below meth c H1 locs1 cells slots Q (F0 m (pc + 1) ls rest)) : W p l e R s m args below meth c H locs cells slots Q (F0 m pc ls (.ref v :: .int (nI k) :: .ref ad :: rest)) := by
  refine va_astq (r := (RX2, TX2, 4)) S.1 S.2.1 hI.2 hI.1 hD hS q0 3 qk 2 ha rfl hv rfl (vp_in_nI hk hn) hdg (fun H1 locs1 hP1 hD1 hS1 => ?_)
  rw [nI_clamp (Nat.lt_trans hk hn)] at hP1 hD1
  exact kk H1 locs1 ⟨hP1, hI.2⟩ hD1 hS1
theorem cn_iast {ad n k : Nat} {f : Nat → Int32} {x : Int32} (S : CallFix p m c cc nL s args lw_tb own) (hI : PI D K ws s H) (hD : va_D A ws) (hS : va_S A H0 H locs) (q0 : Nat) (ha : ws[q0]? = some (ad, .inl (K 0, n, .inl f))) (hk : k < n) (hn : n < 2 ^ 31) (hdg : decode cc pc = .ok (.iastore, 1))
    (kk : ∀ (H1 : Heap) (locs1 : List Loc), PI D K (ws.set q0 (ad, .inl (K 0, n, .inl (upd f k x)))) s H1 → va_D A (ws.set q0 (ad, .inl (K 0, n, .inl (upd f k x)))) → va_S A H0 H1 locs1 → W p l e R s m args below meth c H1 locs1 cells slots Q (F0 m (pc + 1) ls rest)) : W p l e R s m args below meth c H locs cells slots Q (F0 m pc ls (.int x :: .int (nI k) :: .ref ad :: rest)) := by
  refine va_iast S.1 S.2.1 hI.2 hI.1 hD hS q0 0 ha rfl (vp_in_nI hk hn) hdg (fun H1 locs1 hP1 hD1 hS1 => ?_)
  rw [nI_clamp (Nat.lt_trans hk hn)] at hP1 hD1
  exact kk H1 locs1 ⟨hP1, hI.2⟩ hD1 hS1
theorem cn_ret {σ : Type} {a0 : Nat} {e0 : va_E} {sz : Nat} {wf : σ → va_W} (S : CallFix p m c cc nL s args lw_tb own) (hr : meth.sig.returnType = none) (hlk : meth.locks = false) (u : σ) (hI : PI D K (wf u) s H) (hD : va_D (va_A [(a0, e0)] sz) (wf u)) (hS : va_S (va_A [(a0, e0)] sz) s.heap H locs) (hdg : decode cc pc = .ok (.return_, 1)) :
    W p l e R s m args below meth c H locs cells slots (MQ below (QI D K a0 e0 sz wf) args s cells slots (va_A [(a0, e0)] sz)) (F0 m pc ls []) := W.vret S.1 S.2.1 hr (fun t ht hW => ⟨⟨u, rfl, trivial, ⟨by rw [ht]; exact hI.1, va_K.moved hW.alike hI.2⟩, hD⟩, hS.F ht⟩) hS.2.2 hdg hlk
theorem ro_c {R : Room} {d cells slots mc ms : Nat} (h1 : d + 1 ≤ R.frames) (h2 : 40 * (d + 1) ≤ R.locals) (h3 : cells + mc ≤ R.cells) (h4 : slots + ms ≤ R.slots) : (d + 1 ≤ R.frames ∧ 40 * (d + 1) ≤ R.locals) ∧ cells + mc ≤ R.cells ∧ slots + ms ≤ R.slots := ⟨⟨h1, h2⟩, h3, h4⟩
theorem kIc {σ : Type} {wf : σ → va_W} {wr : va_W} {b : Nat} {e0 : va_E} {mc ms : Nat} (hI : PI D K ws s H) (hD : va_D A ws) (hS : va_S A H0 H locs) (hA : ∀ q, H0.size ≤ q → A q) (isC isR : List Nat) (hC : isC.map (fun i => ws[i]?) = [(b, e0)].map some) (hRr : isR.map (fun i => ws[i]?) = wr.map some) (hn : va_nd isR = true) (hdis : ∀ i ∈ isR, i ∉ isC)
    (hrun : va_Run p l e R s m args below meth c H locs cells slots mc ms (F0 m pc ls st) rest (QI D K b e0 H.size wf (.ref b :: As).toArray) (va_A [(b, e0)] H.size))
    (kk : ∀ (u : σ) (H1 : Heap) (locs1 : List Loc), PI D K (wr ++ wf u) s H1 → va_D A (wr ++ wf u) → va_S A H0 H1 locs1 → W p l e R s m args below meth c H1 locs1 (cells + mc) (slots + ms) Q (F0 m (pc + 3) ls rest)) : W p l e R s m args below meth c H locs cells slots Q (F0 m pc ls st) := by
  have hFc := va_free (wc := [(b, e0)]) hD hS hA isC hC
  refine va_callv hrun hS (fun q _ h => hFc q h) hFc (fun u t H1 locs1 ht hvm _ hB hz1 hk1 hS1 => ?_)
  obtain ⟨hI1, hD1⟩ := hB
  have hP1 := hI1.1
  rw [ht] at hP1
  obtain ⟨hP2, hD2⟩ := va_join (wr := wr) (w1 := wf u) hI.1 hD isC isR hC hRr hn hdis hk1 hFc hP1 hD1
  exact kk u H1 locs1 ⟨hP2, hI.2⟩ hD2 hS1
theorem kI {σ : Type} {wf : σ → va_W} {wr : va_W} {b : Nat} {e0 : va_E} {mc ms : Nat} {X : State → Prop} (S : CallFix p m c cc nL s args lw_tb own) (hM : Met l y (TWd y bytes maxL none) (rmc d mc ms) (va_Pc (.ref b :: As) (BI D K b e0 H.size X)) (QI D K b e0 H.size wf) mc ms (va_A [(b, e0)] H.size))
    (hlink : Cond.methodLink own index y ∈ lw_tb) (hst : Cond.instanceMethod y ∈ lw_tb) (hini : Cond.initialized y.cls ∈ lw_tb) (hcode : Cond.code y bytes maxL none ∈ lw_tb) (hyn : y.name = "<init>")
    (hd : y.cls ≠ "java/lang/invoke/MethodHandle" ∧ y.cls ≠ "java/lang/invoke/VarHandle" ∧ (parseMethodDescriptor y.desc).map (fun d => d.parameters.length) = some As.length) (hm : maxL ≤ 21)
    (hR : (d + 1 ≤ R.frames ∧ 40 * (d + 1) ≤ R.locals) ∧ cells + mc ≤ R.cells ∧ slots + ms ≤ R.slots) (hX : ∀ (U V : State), V.heap = U.heap → U.vm = V.vm → X U → X V) (hB : ∀ U : State, U.heap = H → s.WarmedH U.vm → X U)
    (hI : PI D K ws s H) (hD : va_D A ws) (hS : va_S A H0 H locs) (hA : ∀ q, H0.size ≤ q → A q) (isC isR : List Nat) (hC : isC.map (fun i => ws[i]?) = [(b, e0)].map some) (hRr : isR.map (fun i => ws[i]?) = wr.map some) (hn : va_nd isR = true) (hdis : ∀ i ∈ isR, i ∉ isC)
    (hsz : ls.size = nL) (hstk : st = As.reverse ++ .ref b :: rest) (hW : (rest.map fun v => v.category).sum ≤ 8) (hdg : decode cc pc = .ok (.invokespecial index, 3))
    (kk : ∀ (u : σ) (H1 : Heap) (locs1 : List Loc), PI D K (wr ++ wf u) s H1 → va_D A (wr ++ wf u) → va_S A H0 H1 locs1 → W p l e R s m args below meth c H1 locs1 (cells + mc) (slots + ms) Q (F0 m (pc + 3) ls rest)) : W p l e R s m args below meth c H locs cells slots Q (F0 m pc ls st) := by
  have hr2 := hR.1.2
  refine kIc (As := As) hI hD hS hA isC isR hC hRr hn hdis (va_runI (g := F0 m pc ls st) (As := As) (rest := rest) (n := As.length) (b := b) S hM ⟨callB_of As.length S.2.2.2.2 (tw_good hcode) rfl rfl rfl (S.2.2.2.2 _ hini) (S.2.2.2.2 _ hlink) hd ⟨hR.1.1, by simp only [rmc]; omega⟩, hyn, S.2.2.2.2 _ hst⟩ ⟨bI_bl hX, fun U hU hWm => ⟨rfl, by rw [hU], ⟨by rw [hU]; exact hI.1.sub isC (by
    have h1 : isC.filterMap (fun i => ws[i]?) = (isC.map (fun i => ws[i]?)).filterMap id := by rw [List.filterMap_map]; rfl
    rw [h1, hC]; rfl), va_K.moved hWm.alike hI.2⟩, hB U hU hWm⟩⟩ rfl rfl hsz hstk (lv_room hW) hdg hR.2) kk
theorem kIN {σ : Type} {wf : σ → va_W} {wr : va_W} {b : Nat} {e0 : va_E} {mc ms : Nat} {X : State → Prop} (S : CallFix p m c cc nL s args lw_tb own) (hM : Met l y (TWd y bytes maxL none) (rmc d mc ms) (va_Pc (.ref b :: As) (BI D K b e0 H.size X)) (QI D K b e0 H.size wf) mc ms (va_A [(b, e0)] H.size))
    (hlink : va_Nw (.methodLinkNest own index y "BondedWall") s) (hst : Cond.instanceMethod y ∈ lw_tb) (hini : Cond.initialized y.cls ∈ lw_tb) (hcode : Cond.code y bytes maxL none ∈ lw_tb) (hyn : y.name = "<init>")
    (hd : y.cls ≠ "java/lang/invoke/MethodHandle" ∧ y.cls ≠ "java/lang/invoke/VarHandle" ∧ (parseMethodDescriptor y.desc).map (fun d => d.parameters.length) = some As.length) (hm : maxL ≤ 21)
    (hR : (d + 1 ≤ R.frames ∧ 40 * (d + 1) ≤ R.locals) ∧ cells + mc ≤ R.cells ∧ slots + ms ≤ R.slots) (hX : ∀ (U V : State), V.heap = U.heap → U.vm = V.vm → X U → X V) (hB : ∀ U : State, U.heap = H → s.WarmedH U.vm → X U)
    (hI : PI D K ws s H) (hD : va_D A ws) (hS : va_S A H0 H locs) (hA : ∀ q, H0.size ≤ q → A q) (isC isR : List Nat) (hC : isC.map (fun i => ws[i]?) = [(b, e0)].map some) (hRr : isR.map (fun i => ws[i]?) = wr.map some) (hn : va_nd isR = true) (hdis : ∀ i ∈ isR, i ∉ isC)
    (hsz : ls.size = nL) (hstk : st = As.reverse ++ .ref b :: rest) (hW : (rest.map fun v => v.category).sum ≤ 8) (hdg : decode cc pc = .ok (.invokespecial index, 3))
    (kk : ∀ (u : σ) (H1 : Heap) (locs1 : List Loc), PI D K (wr ++ wf u) s H1 → va_D A (wr ++ wf u) → va_S A H0 H1 locs1 → W p l e R s m args below meth c H1 locs1 (cells + mc) (slots + ms) Q (F0 m (pc + 3) ls rest)) : W p l e R s m args below meth c H locs cells slots Q (F0 m pc ls st) := by
  have hr2 := hR.1.2
  refine kIc (As := As) hI hD hS hA isC isR hC hRr hn hdis (va_runIN (host := "BondedWall") (g := F0 m pc ls st) (As := As) (rest := rest) (n := As.length) (b := b) S hM ⟨va_cnB As.length S.2.2.2.2 (tw_good hcode) rfl rfl rfl hlink (S.2.2.2.2 _ hini) hd ⟨hR.1.1, by simp only [rmc]; omega⟩, hyn, S.2.2.2.2 _ hst⟩ ⟨bI_bl hX, fun U hU hWm => ⟨rfl, by rw [hU], ⟨by rw [hU]; exact hI.1.sub isC (by
    have h1 : isC.filterMap (fun i => ws[i]?) = (isC.map (fun i => ws[i]?)).filterMap id := by rw [List.filterMap_map]; rfl
    rw [h1, hC]; rfl), va_K.moved hWm.alike hI.2⟩, hB U hU hWm⟩⟩ rfl rfl hsz hstk (lv_room hW) hdg hR.2) kk

theorem n0 {fs : List Value} (S : CallFix p m c cc nL s args lw_tb own) (hI : PI D K ws s H) (hD : va_D A ws) (hS : va_S A H0 H locs) (hA : ∀ q, H0.size ≤ q → A q) (hcl : Cond.classLink own index RX0 ∈ lw_tb) (hinst : Cond.instantiable RX0 2 ∈ lw_tb) (hini : Cond.initialized RX0 ∈ lw_tb) (hfs : ∀ j, j < 2 → defaultValue (tyX0 j) = vp_V fs j) (hc : cells + 1 ≤ R.cells) (hs : slots + 2 ≤ R.slots) (hdg : decode cc pc = .ok (.new index, 3))
    (kk : ∀ (q : Nat) (H1 : Heap), PI D K (ws ++ [(q, .inr (0, fs))]) s H1 → va_D A (ws ++ [(q, .inr (0, fs))]) → va_S A H0 H1 locs → W p l e R s m args below meth c H1 locs (cells + 1) (slots + 2) Q (F0 m (pc + 3) ls (.ref q :: rest))) : W p l e R s m args below meth c H locs cells slots Q (F0 m pc ls rest) :=
  va_new (ci := 0) (C := RX0) (T := TX0) (N := 2) S.1 S.2.1 S.2.2.2.2 inX0 tyX0 tyX0_ok S.2.2.2.1 (S.2.2.2.2 _ hcl) (S.2.2.2.2 _ hinst) (S.2.2.2.2 _ hini) hI.2 hI.1 hD hS hA rfl hfs hc hs hdg (fun q H1 hP1 hD1 hS1 => kk q H1 ⟨hP1, hI.2⟩ hD1 hS1)
theorem c0 {ad : Nat} {fs : List Value} {v : Value} {ty : FieldType} (S : CallFix p m c cc nL s args lw_tb own) (hI : PI D K ws s H) (hD : va_D A ws) (hS : va_S A H0 H locs) (q0 : Nat) (he : ws[q0]? = some (ad, .inr (0, fs))) (k : Nat) (hk : k < 2) (hl : Cond.fieldLink own index (TX0 k).1 (TX0 k).2.1 (TX0 k).2.2.1 ∈ lw_tb) (hfin : (TX0 k).2.2.2 = false) (hd : parseFieldDescriptor (TX0 k).2.2.1 = some ty) (hn : narrow ty v = v) (hfit : fits ty v = true) (hlen : k < fs.length) (hdg : decode cc pc = .ok (.putfield index, 3))
    (kk : ∀ (H1 : Heap) (locs1 : List Loc), PI D K (ws.set q0 (ad, .inr (0, fs.set k v))) s H1 → va_D A (ws.set q0 (ad, .inr (0, fs.set k v))) → va_S A H0 H1 locs1 → W p l e R s m args below meth c H1 locs1 cells slots Q (F0 m (pc + 3) ls rest)) : W p l e R s m args below meth c H locs cells slots Q (F0 m pc ls (v :: .ref ad :: rest)) :=
  va_put (C := RX0) (T := TX0) (N := 2) S.1 S.2.1 S.2.2.2.2 inX0 tyX0 tyX0_ok nmX0 S.2.2.2.1 hI.2 hI.1 hD hS q0 he rfl k hk (S.2.2.2.2 _ hl) (fun _ h9 => h9) hfin hd hn hfit hlen hdg (fun H1 locs1 hP1 hD1 hS1 => kk H1 locs1 ⟨hP1, hI.2⟩ hD1 hS1)
theorem f0 {ad : Nat} {fs : List Value} {v : Value} {ty : FieldType} (S : CallFix p m c cc nL s args lw_tb RX0) (hin : meth.name = "<init>") (hI : PI D K ws s H) (hD : va_D A ws) (hS : va_S A H0 H locs) (q0 : Nat) (he : ws[q0]? = some (ad, .inr (0, fs))) (k : Nat) (hk : k < 2) (hl : Cond.fieldLink RX0 index (TX0 k).1 (TX0 k).2.1 (TX0 k).2.2.1 ∈ lw_tb) (hfin : (TX0 k).2.2.2 = true) (hdecl : (TX0 k).1 = RX0) (hd : parseFieldDescriptor (TX0 k).2.2.1 = some ty) (hn : narrow ty v = v) (hfit : fits ty v = true) (hlen : k < fs.length) (hdg : decode cc pc = .ok (.putfield index, 3))
    (kk : ∀ (H1 : Heap) (locs1 : List Loc), PI D K (ws.set q0 (ad, .inr (0, fs.set k v))) s H1 → va_D A (ws.set q0 (ad, .inr (0, fs.set k v))) → va_S A H0 H1 locs1 → W p l e R s m args below meth c H1 locs1 cells slots Q (F0 m (pc + 3) ls rest)) : W p l e R s m args below meth c H locs cells slots Q (F0 m pc ls (v :: .ref ad :: rest)) :=
  va_putF (C := RX0) (T := TX0) (N := 2) S.1 S.2.1 S.2.2.2.2 inX0 tyX0 tyX0_ok nmX0 S.2.2.2.1 hI.2 hI.1 hD hS q0 he rfl k hk (S.2.2.2.2 _ hl) (fun _ h9 => h9) hfin hin hdecl hd hn hfit hlen hdg (fun H1 locs1 hP1 hD1 hS1 => kk H1 locs1 ⟨hP1, hI.2⟩ hD1 hS1)
theorem n1 {fs : List Value} (S : CallFix p m c cc nL s args lw_tb own) (hI : PI D K ws s H) (hD : va_D A ws) (hS : va_S A H0 H locs) (hA : ∀ q, H0.size ≤ q → A q) (hcl : Cond.classLink own index RX1 ∈ lw_tb) (hinst : Cond.instantiable RX1 7 ∈ lw_tb) (hini : Cond.initialized RX1 ∈ lw_tb) (hfs : ∀ j, j < 7 → defaultValue (tyX1 j) = vp_V fs j) (hc : cells + 1 ≤ R.cells) (hs : slots + 7 ≤ R.slots) (hdg : decode cc pc = .ok (.new index, 3))
    (kk : ∀ (q : Nat) (H1 : Heap), PI D K (ws ++ [(q, .inr (1, fs))]) s H1 → va_D A (ws ++ [(q, .inr (1, fs))]) → va_S A H0 H1 locs → W p l e R s m args below meth c H1 locs (cells + 1) (slots + 7) Q (F0 m (pc + 3) ls (.ref q :: rest))) : W p l e R s m args below meth c H locs cells slots Q (F0 m pc ls rest) :=
  va_new (ci := 1) (C := RX1) (T := TX1) (N := 7) S.1 S.2.1 S.2.2.2.2 inX1 tyX1 tyX1_ok S.2.2.2.1 (S.2.2.2.2 _ hcl) (S.2.2.2.2 _ hinst) (S.2.2.2.2 _ hini) hI.2 hI.1 hD hS hA rfl hfs hc hs hdg (fun q H1 hP1 hD1 hS1 => kk q H1 ⟨hP1, hI.2⟩ hD1 hS1)
theorem c1 {ad : Nat} {fs : List Value} {v : Value} {ty : FieldType} (S : CallFix p m c cc nL s args lw_tb own) (hI : PI D K ws s H) (hD : va_D A ws) (hS : va_S A H0 H locs) (q0 : Nat) (he : ws[q0]? = some (ad, .inr (1, fs))) (k : Nat) (hk : k < 7) (hl : Cond.fieldLink own index (TX1 k).1 (TX1 k).2.1 (TX1 k).2.2.1 ∈ lw_tb) (hfin : (TX1 k).2.2.2 = false) (hd : parseFieldDescriptor (TX1 k).2.2.1 = some ty) (hn : narrow ty v = v) (hfit : fits ty v = true) (hlen : k < fs.length) (hdg : decode cc pc = .ok (.putfield index, 3))
    (kk : ∀ (H1 : Heap) (locs1 : List Loc), PI D K (ws.set q0 (ad, .inr (1, fs.set k v))) s H1 → va_D A (ws.set q0 (ad, .inr (1, fs.set k v))) → va_S A H0 H1 locs1 → W p l e R s m args below meth c H1 locs1 cells slots Q (F0 m (pc + 3) ls rest)) : W p l e R s m args below meth c H locs cells slots Q (F0 m pc ls (v :: .ref ad :: rest)) :=
  va_put (C := RX1) (T := TX1) (N := 7) S.1 S.2.1 S.2.2.2.2 inX1 tyX1 tyX1_ok nmX1 S.2.2.2.1 hI.2 hI.1 hD hS q0 he rfl k hk (S.2.2.2.2 _ hl) (fun _ h9 => h9) hfin hd hn hfit hlen hdg (fun H1 locs1 hP1 hD1 hS1 => kk H1 locs1 ⟨hP1, hI.2⟩ hD1 hS1)
theorem f1 {ad : Nat} {fs : List Value} {v : Value} {ty : FieldType} (S : CallFix p m c cc nL s args lw_tb RX1) (hin : meth.name = "<init>") (hI : PI D K ws s H) (hD : va_D A ws) (hS : va_S A H0 H locs) (q0 : Nat) (he : ws[q0]? = some (ad, .inr (1, fs))) (k : Nat) (hk : k < 7) (hl : Cond.fieldLink RX1 index (TX1 k).1 (TX1 k).2.1 (TX1 k).2.2.1 ∈ lw_tb) (hfin : (TX1 k).2.2.2 = true) (hdecl : (TX1 k).1 = RX1) (hd : parseFieldDescriptor (TX1 k).2.2.1 = some ty) (hn : narrow ty v = v) (hfit : fits ty v = true) (hlen : k < fs.length) (hdg : decode cc pc = .ok (.putfield index, 3))
    (kk : ∀ (H1 : Heap) (locs1 : List Loc), PI D K (ws.set q0 (ad, .inr (1, fs.set k v))) s H1 → va_D A (ws.set q0 (ad, .inr (1, fs.set k v))) → va_S A H0 H1 locs1 → W p l e R s m args below meth c H1 locs1 cells slots Q (F0 m (pc + 3) ls rest)) : W p l e R s m args below meth c H locs cells slots Q (F0 m pc ls (v :: .ref ad :: rest)) :=
  va_putF (C := RX1) (T := TX1) (N := 7) S.1 S.2.1 S.2.2.2.2 inX1 tyX1 tyX1_ok nmX1 S.2.2.2.1 hI.2 hI.1 hD hS q0 he rfl k hk (S.2.2.2.2 _ hl) (fun _ h9 => h9) hfin hin hdecl hd hn hfit hlen hdg (fun H1 locs1 hP1 hD1 hS1 => kk H1 locs1 ⟨hP1, hI.2⟩ hD1 hS1)
theorem n2 {fs : List Value} (S : CallFix p m c cc nL s args lw_tb own) (hI : PI D K ws s H) (hD : va_D A ws) (hS : va_S A H0 H locs) (hA : ∀ q, H0.size ≤ q → A q) (hcl : Cond.classLink own index RX2 ∈ lw_tb) (hinst : Cond.instantiable RX2 4 ∈ lw_tb) (hini : Cond.initialized RX2 ∈ lw_tb) (hfs : ∀ j, j < 4 → defaultValue (tyX2 j) = vp_V fs j) (hc : cells + 1 ≤ R.cells) (hs : slots + 4 ≤ R.slots) (hdg : decode cc pc = .ok (.new index, 3))
    (kk : ∀ (q : Nat) (H1 : Heap), PI D K (ws ++ [(q, .inr (2, fs))]) s H1 → va_D A (ws ++ [(q, .inr (2, fs))]) → va_S A H0 H1 locs → W p l e R s m args below meth c H1 locs (cells + 1) (slots + 4) Q (F0 m (pc + 3) ls (.ref q :: rest))) : W p l e R s m args below meth c H locs cells slots Q (F0 m pc ls rest) :=
  va_new (ci := 2) (C := RX2) (T := TX2) (N := 4) S.1 S.2.1 S.2.2.2.2 inX2 tyX2 tyX2_ok S.2.2.2.1 (S.2.2.2.2 _ hcl) (S.2.2.2.2 _ hinst) (S.2.2.2.2 _ hini) hI.2 hI.1 hD hS hA rfl hfs hc hs hdg (fun q H1 hP1 hD1 hS1 => kk q H1 ⟨hP1, hI.2⟩ hD1 hS1)
theorem c2 {ad : Nat} {fs : List Value} {v : Value} {ty : FieldType} (S : CallFix p m c cc nL s args lw_tb own) (hI : PI D K ws s H) (hD : va_D A ws) (hS : va_S A H0 H locs) (q0 : Nat) (he : ws[q0]? = some (ad, .inr (2, fs))) (k : Nat) (hk : k < 4) (hl : Cond.fieldLink own index (TX2 k).1 (TX2 k).2.1 (TX2 k).2.2.1 ∈ lw_tb) (hfin : (TX2 k).2.2.2 = false) (hd : parseFieldDescriptor (TX2 k).2.2.1 = some ty) (hn : narrow ty v = v) (hfit : fits ty v = true) (hlen : k < fs.length) (hdg : decode cc pc = .ok (.putfield index, 3))
    (kk : ∀ (H1 : Heap) (locs1 : List Loc), PI D K (ws.set q0 (ad, .inr (2, fs.set k v))) s H1 → va_D A (ws.set q0 (ad, .inr (2, fs.set k v))) → va_S A H0 H1 locs1 → W p l e R s m args below meth c H1 locs1 cells slots Q (F0 m (pc + 3) ls rest)) : W p l e R s m args below meth c H locs cells slots Q (F0 m pc ls (v :: .ref ad :: rest)) :=
  va_put (C := RX2) (T := TX2) (N := 4) S.1 S.2.1 S.2.2.2.2 inX2 tyX2 tyX2_ok nmX2 S.2.2.2.1 hI.2 hI.1 hD hS q0 he rfl k hk (S.2.2.2.2 _ hl) (fun _ h9 => h9) hfin hd hn hfit hlen hdg (fun H1 locs1 hP1 hD1 hS1 => kk H1 locs1 ⟨hP1, hI.2⟩ hD1 hS1)
theorem f2 {ad : Nat} {fs : List Value} {v : Value} {ty : FieldType} (S : CallFix p m c cc nL s args lw_tb RX2) (hin : meth.name = "<init>") (hI : PI D K ws s H) (hD : va_D A ws) (hS : va_S A H0 H locs) (q0 : Nat) (he : ws[q0]? = some (ad, .inr (2, fs))) (k : Nat) (hk : k < 4) (hl : Cond.fieldLink RX2 index (TX2 k).1 (TX2 k).2.1 (TX2 k).2.2.1 ∈ lw_tb) (hfin : (TX2 k).2.2.2 = true) (hdecl : (TX2 k).1 = RX2) (hd : parseFieldDescriptor (TX2 k).2.2.1 = some ty) (hn : narrow ty v = v) (hfit : fits ty v = true) (hlen : k < fs.length) (hdg : decode cc pc = .ok (.putfield index, 3))
    (kk : ∀ (H1 : Heap) (locs1 : List Loc), PI D K (ws.set q0 (ad, .inr (2, fs.set k v))) s H1 → va_D A (ws.set q0 (ad, .inr (2, fs.set k v))) → va_S A H0 H1 locs1 → W p l e R s m args below meth c H1 locs1 cells slots Q (F0 m (pc + 3) ls rest)) : W p l e R s m args below meth c H locs cells slots Q (F0 m pc ls (v :: .ref ad :: rest)) :=
  va_putF (C := RX2) (T := TX2) (N := 4) S.1 S.2.1 S.2.2.2.2 inX2 tyX2 tyX2_ok nmX2 S.2.2.2.1 hI.2 hI.1 hD hS q0 he rfl k hk (S.2.2.2.2 _ hl) (fun _ h9 => h9) hfin hin hdecl hd hn hfit hlen hdg (fun H1 locs1 hP1 hD1 hS1 => kk H1 locs1 ⟨hP1, hI.2⟩ hD1 hS1)
theorem n3 {fs : List Value} (S : CallFix p m c cc nL s args lw_tb own) (hI : PI D K ws s H) (hD : va_D A ws) (hS : va_S A H0 H locs) (hA : ∀ q, H0.size ≤ q → A q) (hcl : Cond.classLink own index RX3 ∈ lw_tb) (hinst : Cond.instantiable RX3 7 ∈ lw_tb) (hini : Cond.initialized RX3 ∈ lw_tb) (hfs : ∀ j, j < 7 → defaultValue (tyX3 j) = vp_V fs j) (hc : cells + 1 ≤ R.cells) (hs : slots + 7 ≤ R.slots) (hdg : decode cc pc = .ok (.new index, 3))
    (kk : ∀ (q : Nat) (H1 : Heap), PI D K (ws ++ [(q, .inr (3, fs))]) s H1 → va_D A (ws ++ [(q, .inr (3, fs))]) → va_S A H0 H1 locs → W p l e R s m args below meth c H1 locs (cells + 1) (slots + 7) Q (F0 m (pc + 3) ls (.ref q :: rest))) : W p l e R s m args below meth c H locs cells slots Q (F0 m pc ls rest) :=
  va_new (ci := 3) (C := RX3) (T := TX3) (N := 7) S.1 S.2.1 S.2.2.2.2 inX3 tyX3 tyX3_ok S.2.2.2.1 (S.2.2.2.2 _ hcl) (S.2.2.2.2 _ hinst) (S.2.2.2.2 _ hini) hI.2 hI.1 hD hS hA rfl hfs hc hs hdg (fun q H1 hP1 hD1 hS1 => kk q H1 ⟨hP1, hI.2⟩ hD1 hS1)
theorem c3 {ad : Nat} {fs : List Value} {v : Value} {ty : FieldType} (S : CallFix p m c cc nL s args lw_tb own) (hI : PI D K ws s H) (hD : va_D A ws) (hS : va_S A H0 H locs) (q0 : Nat) (he : ws[q0]? = some (ad, .inr (3, fs))) (k : Nat) (hk : k < 7) (hl : Cond.fieldLink own index (TX3 k).1 (TX3 k).2.1 (TX3 k).2.2.1 ∈ lw_tb) (hfin : (TX3 k).2.2.2 = false) (hd : parseFieldDescriptor (TX3 k).2.2.1 = some ty) (hn : narrow ty v = v) (hfit : fits ty v = true) (hlen : k < fs.length) (hdg : decode cc pc = .ok (.putfield index, 3))
    (kk : ∀ (H1 : Heap) (locs1 : List Loc), PI D K (ws.set q0 (ad, .inr (3, fs.set k v))) s H1 → va_D A (ws.set q0 (ad, .inr (3, fs.set k v))) → va_S A H0 H1 locs1 → W p l e R s m args below meth c H1 locs1 cells slots Q (F0 m (pc + 3) ls rest)) : W p l e R s m args below meth c H locs cells slots Q (F0 m pc ls (v :: .ref ad :: rest)) :=
  va_put (C := RX3) (T := TX3) (N := 7) S.1 S.2.1 S.2.2.2.2 inX3 tyX3 tyX3_ok nmX3 S.2.2.2.1 hI.2 hI.1 hD hS q0 he rfl k hk (S.2.2.2.2 _ hl) (fun _ h9 => h9) hfin hd hn hfit hlen hdg (fun H1 locs1 hP1 hD1 hS1 => kk H1 locs1 ⟨hP1, hI.2⟩ hD1 hS1)
theorem f3 {ad : Nat} {fs : List Value} {v : Value} {ty : FieldType} (S : CallFix p m c cc nL s args lw_tb RX3) (hin : meth.name = "<init>") (hI : PI D K ws s H) (hD : va_D A ws) (hS : va_S A H0 H locs) (q0 : Nat) (he : ws[q0]? = some (ad, .inr (3, fs))) (k : Nat) (hk : k < 7) (hl : Cond.fieldLink RX3 index (TX3 k).1 (TX3 k).2.1 (TX3 k).2.2.1 ∈ lw_tb) (hfin : (TX3 k).2.2.2 = true) (hdecl : (TX3 k).1 = RX3) (hd : parseFieldDescriptor (TX3 k).2.2.1 = some ty) (hn : narrow ty v = v) (hfit : fits ty v = true) (hlen : k < fs.length) (hdg : decode cc pc = .ok (.putfield index, 3))
    (kk : ∀ (H1 : Heap) (locs1 : List Loc), PI D K (ws.set q0 (ad, .inr (3, fs.set k v))) s H1 → va_D A (ws.set q0 (ad, .inr (3, fs.set k v))) → va_S A H0 H1 locs1 → W p l e R s m args below meth c H1 locs1 cells slots Q (F0 m (pc + 3) ls rest)) : W p l e R s m args below meth c H locs cells slots Q (F0 m pc ls (v :: .ref ad :: rest)) :=
  va_putF (C := RX3) (T := TX3) (N := 7) S.1 S.2.1 S.2.2.2.2 inX3 tyX3 tyX3_ok nmX3 S.2.2.2.1 hI.2 hI.1 hD hS q0 he rfl k hk (S.2.2.2.2 _ hl) (fun _ h9 => h9) hfin hin hdecl hd hn hfit hlen hdg (fun H1 locs1 hP1 hD1 hS1 => kk H1 locs1 ⟨hP1, hI.2⟩ hD1 hS1)
theorem n4 {fs : List Value} (S : CallFix p m c cc nL s args lw_tb own) (hI : PI D K ws s H) (hD : va_D A ws) (hS : va_S A H0 H locs) (hA : ∀ q, H0.size ≤ q → A q) (hcl : Cond.classLink own index RX4 ∈ lw_tb) (hinst : Cond.instantiable RX4 3 ∈ lw_tb) (hini : Cond.initialized RX4 ∈ lw_tb) (hfs : ∀ j, j < 3 → defaultValue (tyX4 j) = vp_V fs j) (hc : cells + 1 ≤ R.cells) (hs : slots + 3 ≤ R.slots) (hdg : decode cc pc = .ok (.new index, 3))
    (kk : ∀ (q : Nat) (H1 : Heap), PI D K (ws ++ [(q, .inr (4, fs))]) s H1 → va_D A (ws ++ [(q, .inr (4, fs))]) → va_S A H0 H1 locs → W p l e R s m args below meth c H1 locs (cells + 1) (slots + 3) Q (F0 m (pc + 3) ls (.ref q :: rest))) : W p l e R s m args below meth c H locs cells slots Q (F0 m pc ls rest) :=
  va_new (ci := 4) (C := RX4) (T := TX4) (N := 3) S.1 S.2.1 S.2.2.2.2 inX4 tyX4 tyX4_ok S.2.2.2.1 (S.2.2.2.2 _ hcl) (S.2.2.2.2 _ hinst) (S.2.2.2.2 _ hini) hI.2 hI.1 hD hS hA rfl hfs hc hs hdg (fun q H1 hP1 hD1 hS1 => kk q H1 ⟨hP1, hI.2⟩ hD1 hS1)
theorem c4 {ad : Nat} {fs : List Value} {v : Value} {ty : FieldType} (S : CallFix p m c cc nL s args lw_tb own) (hI : PI D K ws s H) (hD : va_D A ws) (hS : va_S A H0 H locs) (q0 : Nat) (he : ws[q0]? = some (ad, .inr (4, fs))) (k : Nat) (hk : k < 3) (hl : Cond.fieldLink own index (TX4 k).1 (TX4 k).2.1 (TX4 k).2.2.1 ∈ lw_tb) (hfin : (TX4 k).2.2.2 = false) (hd : parseFieldDescriptor (TX4 k).2.2.1 = some ty) (hn : narrow ty v = v) (hfit : fits ty v = true) (hlen : k < fs.length) (hdg : decode cc pc = .ok (.putfield index, 3))
    (kk : ∀ (H1 : Heap) (locs1 : List Loc), PI D K (ws.set q0 (ad, .inr (4, fs.set k v))) s H1 → va_D A (ws.set q0 (ad, .inr (4, fs.set k v))) → va_S A H0 H1 locs1 → W p l e R s m args below meth c H1 locs1 cells slots Q (F0 m (pc + 3) ls rest)) : W p l e R s m args below meth c H locs cells slots Q (F0 m pc ls (v :: .ref ad :: rest)) :=
  va_put (C := RX4) (T := TX4) (N := 3) S.1 S.2.1 S.2.2.2.2 inX4 tyX4 tyX4_ok nmX4 S.2.2.2.1 hI.2 hI.1 hD hS q0 he rfl k hk (S.2.2.2.2 _ hl) (fun _ h9 => h9) hfin hd hn hfit hlen hdg (fun H1 locs1 hP1 hD1 hS1 => kk H1 locs1 ⟨hP1, hI.2⟩ hD1 hS1)
theorem f4 {ad : Nat} {fs : List Value} {v : Value} {ty : FieldType} (S : CallFix p m c cc nL s args lw_tb RX4) (hin : meth.name = "<init>") (hI : PI D K ws s H) (hD : va_D A ws) (hS : va_S A H0 H locs) (q0 : Nat) (he : ws[q0]? = some (ad, .inr (4, fs))) (k : Nat) (hk : k < 3) (hl : Cond.fieldLink RX4 index (TX4 k).1 (TX4 k).2.1 (TX4 k).2.2.1 ∈ lw_tb) (hfin : (TX4 k).2.2.2 = true) (hdecl : (TX4 k).1 = RX4) (hd : parseFieldDescriptor (TX4 k).2.2.1 = some ty) (hn : narrow ty v = v) (hfit : fits ty v = true) (hlen : k < fs.length) (hdg : decode cc pc = .ok (.putfield index, 3))
    (kk : ∀ (H1 : Heap) (locs1 : List Loc), PI D K (ws.set q0 (ad, .inr (4, fs.set k v))) s H1 → va_D A (ws.set q0 (ad, .inr (4, fs.set k v))) → va_S A H0 H1 locs1 → W p l e R s m args below meth c H1 locs1 cells slots Q (F0 m (pc + 3) ls rest)) : W p l e R s m args below meth c H locs cells slots Q (F0 m pc ls (v :: .ref ad :: rest)) :=
  va_putF (C := RX4) (T := TX4) (N := 3) S.1 S.2.1 S.2.2.2.2 inX4 tyX4 tyX4_ok nmX4 S.2.2.2.1 hI.2 hI.1 hD hS q0 he rfl k hk (S.2.2.2.2 _ hl) (fun _ h9 => h9) hfin hin hdecl hd hn hfit hlen hdg (fun H1 locs1 hP1 hD1 hS1 => kk H1 locs1 ⟨hP1, hI.2⟩ hD1 hS1)
theorem n5 {fs : List Value} (S : CallFix p m c cc nL s args lw_tb own) (hI : PI D K ws s H) (hD : va_D A ws) (hS : va_S A H0 H locs) (hA : ∀ q, H0.size ≤ q → A q) (hcl : Cond.classLink own index RX5 ∈ lw_tb) (hinst : Cond.instantiable RX5 1 ∈ lw_tb) (hini : Cond.initialized RX5 ∈ lw_tb) (hfs : ∀ j, j < 1 → defaultValue (tyX5 j) = vp_V fs j) (hc : cells + 1 ≤ R.cells) (hs : slots + 1 ≤ R.slots) (hdg : decode cc pc = .ok (.new index, 3))
    (kk : ∀ (q : Nat) (H1 : Heap), PI D K (ws ++ [(q, .inr (5, fs))]) s H1 → va_D A (ws ++ [(q, .inr (5, fs))]) → va_S A H0 H1 locs → W p l e R s m args below meth c H1 locs (cells + 1) (slots + 1) Q (F0 m (pc + 3) ls (.ref q :: rest))) : W p l e R s m args below meth c H locs cells slots Q (F0 m pc ls rest) :=
  va_new (ci := 5) (C := RX5) (T := TX5) (N := 1) S.1 S.2.1 S.2.2.2.2 inX5 tyX5 tyX5_ok S.2.2.2.1 (S.2.2.2.2 _ hcl) (S.2.2.2.2 _ hinst) (S.2.2.2.2 _ hini) hI.2 hI.1 hD hS hA rfl hfs hc hs hdg (fun q H1 hP1 hD1 hS1 => kk q H1 ⟨hP1, hI.2⟩ hD1 hS1)
theorem c5 {ad : Nat} {fs : List Value} {v : Value} {ty : FieldType} (S : CallFix p m c cc nL s args lw_tb own) (hI : PI D K ws s H) (hD : va_D A ws) (hS : va_S A H0 H locs) (q0 : Nat) (he : ws[q0]? = some (ad, .inr (5, fs))) (k : Nat) (hk : k < 1) (hl : Cond.fieldLink own index (TX5 k).1 (TX5 k).2.1 (TX5 k).2.2.1 ∈ lw_tb) (hfin : (TX5 k).2.2.2 = false) (hd : parseFieldDescriptor (TX5 k).2.2.1 = some ty) (hn : narrow ty v = v) (hfit : fits ty v = true) (hlen : k < fs.length) (hdg : decode cc pc = .ok (.putfield index, 3))
    (kk : ∀ (H1 : Heap) (locs1 : List Loc), PI D K (ws.set q0 (ad, .inr (5, fs.set k v))) s H1 → va_D A (ws.set q0 (ad, .inr (5, fs.set k v))) → va_S A H0 H1 locs1 → W p l e R s m args below meth c H1 locs1 cells slots Q (F0 m (pc + 3) ls rest)) : W p l e R s m args below meth c H locs cells slots Q (F0 m pc ls (v :: .ref ad :: rest)) :=
  va_put (C := RX5) (T := TX5) (N := 1) S.1 S.2.1 S.2.2.2.2 inX5 tyX5 tyX5_ok nmX5 S.2.2.2.1 hI.2 hI.1 hD hS q0 he rfl k hk (S.2.2.2.2 _ hl) (fun _ h9 => h9) hfin hd hn hfit hlen hdg (fun H1 locs1 hP1 hD1 hS1 => kk H1 locs1 ⟨hP1, hI.2⟩ hD1 hS1)
theorem f5 {ad : Nat} {fs : List Value} {v : Value} {ty : FieldType} (S : CallFix p m c cc nL s args lw_tb RX5) (hin : meth.name = "<init>") (hI : PI D K ws s H) (hD : va_D A ws) (hS : va_S A H0 H locs) (q0 : Nat) (he : ws[q0]? = some (ad, .inr (5, fs))) (k : Nat) (hk : k < 1) (hl : Cond.fieldLink RX5 index (TX5 k).1 (TX5 k).2.1 (TX5 k).2.2.1 ∈ lw_tb) (hfin : (TX5 k).2.2.2 = true) (hdecl : (TX5 k).1 = RX5) (hd : parseFieldDescriptor (TX5 k).2.2.1 = some ty) (hn : narrow ty v = v) (hfit : fits ty v = true) (hlen : k < fs.length) (hdg : decode cc pc = .ok (.putfield index, 3))
    (kk : ∀ (H1 : Heap) (locs1 : List Loc), PI D K (ws.set q0 (ad, .inr (5, fs.set k v))) s H1 → va_D A (ws.set q0 (ad, .inr (5, fs.set k v))) → va_S A H0 H1 locs1 → W p l e R s m args below meth c H1 locs1 cells slots Q (F0 m (pc + 3) ls rest)) : W p l e R s m args below meth c H locs cells slots Q (F0 m pc ls (v :: .ref ad :: rest)) :=
  va_putF (C := RX5) (T := TX5) (N := 1) S.1 S.2.1 S.2.2.2.2 inX5 tyX5 tyX5_ok nmX5 S.2.2.2.1 hI.2 hI.1 hD hS q0 he rfl k hk (S.2.2.2.2 _ hl) (fun _ h9 => h9) hfin hin hdecl hd hn hfit hlen hdg (fun H1 locs1 hP1 hD1 hS1 => kk H1 locs1 ⟨hP1, hI.2⟩ hD1 hS1)
theorem n6 {fs : List Value} (S : CallFix p m c cc nL s args lw_tb own) (hI : PI D K ws s H) (hD : va_D A ws) (hS : va_S A H0 H locs) (hA : ∀ q, H0.size ≤ q → A q) (hcl : Cond.classLink own index RX6 ∈ lw_tb) (hinst : Cond.instantiable RX6 6 ∈ lw_tb) (hini : Cond.initialized RX6 ∈ lw_tb) (hfs : ∀ j, j < 6 → defaultValue (tyX6 j) = vp_V fs j) (hc : cells + 1 ≤ R.cells) (hs : slots + 6 ≤ R.slots) (hdg : decode cc pc = .ok (.new index, 3))
    (kk : ∀ (q : Nat) (H1 : Heap), PI D K (ws ++ [(q, .inr (6, fs))]) s H1 → va_D A (ws ++ [(q, .inr (6, fs))]) → va_S A H0 H1 locs → W p l e R s m args below meth c H1 locs (cells + 1) (slots + 6) Q (F0 m (pc + 3) ls (.ref q :: rest))) : W p l e R s m args below meth c H locs cells slots Q (F0 m pc ls rest) :=
  va_new (ci := 6) (C := RX6) (T := TX6) (N := 6) S.1 S.2.1 S.2.2.2.2 inX6 tyX6 tyX6_ok S.2.2.2.1 (S.2.2.2.2 _ hcl) (S.2.2.2.2 _ hinst) (S.2.2.2.2 _ hini) hI.2 hI.1 hD hS hA rfl hfs hc hs hdg (fun q H1 hP1 hD1 hS1 => kk q H1 ⟨hP1, hI.2⟩ hD1 hS1)
theorem c6 {ad : Nat} {fs : List Value} {v : Value} {ty : FieldType} (S : CallFix p m c cc nL s args lw_tb own) (hI : PI D K ws s H) (hD : va_D A ws) (hS : va_S A H0 H locs) (q0 : Nat) (he : ws[q0]? = some (ad, .inr (6, fs))) (k : Nat) (hk : k < 6) (hl : Cond.fieldLink own index (TX6 k).1 (TX6 k).2.1 (TX6 k).2.2.1 ∈ lw_tb) (hfin : (TX6 k).2.2.2 = false) (hd : parseFieldDescriptor (TX6 k).2.2.1 = some ty) (hn : narrow ty v = v) (hfit : fits ty v = true) (hlen : k < fs.length) (hdg : decode cc pc = .ok (.putfield index, 3))
    (kk : ∀ (H1 : Heap) (locs1 : List Loc), PI D K (ws.set q0 (ad, .inr (6, fs.set k v))) s H1 → va_D A (ws.set q0 (ad, .inr (6, fs.set k v))) → va_S A H0 H1 locs1 → W p l e R s m args below meth c H1 locs1 cells slots Q (F0 m (pc + 3) ls rest)) : W p l e R s m args below meth c H locs cells slots Q (F0 m pc ls (v :: .ref ad :: rest)) :=
  va_put (C := RX6) (T := TX6) (N := 6) S.1 S.2.1 S.2.2.2.2 inX6 tyX6 tyX6_ok nmX6 S.2.2.2.1 hI.2 hI.1 hD hS q0 he rfl k hk (S.2.2.2.2 _ hl) (fun _ h9 => h9) hfin hd hn hfit hlen hdg (fun H1 locs1 hP1 hD1 hS1 => kk H1 locs1 ⟨hP1, hI.2⟩ hD1 hS1)
theorem f6 {ad : Nat} {fs : List Value} {v : Value} {ty : FieldType} (S : CallFix p m c cc nL s args lw_tb RX6) (hin : meth.name = "<init>") (hI : PI D K ws s H) (hD : va_D A ws) (hS : va_S A H0 H locs) (q0 : Nat) (he : ws[q0]? = some (ad, .inr (6, fs))) (k : Nat) (hk : k < 6) (hl : Cond.fieldLink RX6 index (TX6 k).1 (TX6 k).2.1 (TX6 k).2.2.1 ∈ lw_tb) (hfin : (TX6 k).2.2.2 = true) (hdecl : (TX6 k).1 = RX6) (hd : parseFieldDescriptor (TX6 k).2.2.1 = some ty) (hn : narrow ty v = v) (hfit : fits ty v = true) (hlen : k < fs.length) (hdg : decode cc pc = .ok (.putfield index, 3))
    (kk : ∀ (H1 : Heap) (locs1 : List Loc), PI D K (ws.set q0 (ad, .inr (6, fs.set k v))) s H1 → va_D A (ws.set q0 (ad, .inr (6, fs.set k v))) → va_S A H0 H1 locs1 → W p l e R s m args below meth c H1 locs1 cells slots Q (F0 m (pc + 3) ls rest)) : W p l e R s m args below meth c H locs cells slots Q (F0 m pc ls (v :: .ref ad :: rest)) :=
  va_putF (C := RX6) (T := TX6) (N := 6) S.1 S.2.1 S.2.2.2.2 inX6 tyX6 tyX6_ok nmX6 S.2.2.2.1 hI.2 hI.1 hD hS q0 he rfl k hk (S.2.2.2.2 _ hl) (fun _ h9 => h9) hfin hin hdecl hd hn hfit hlen hdg (fun H1 locs1 hP1 hD1 hS1 => kk H1 locs1 ⟨hP1, hI.2⟩ hD1 hS1)
theorem n7 {fs : List Value} (S : CallFix p m c cc nL s args lw_tb own) (hI : PI D K ws s H) (hD : va_D A ws) (hS : va_S A H0 H locs) (hA : ∀ q, H0.size ≤ q → A q) (hcl : Cond.classLink own index RX7 ∈ lw_tb) (hinst : Cond.instantiable RX7 5 ∈ lw_tb) (hini : Cond.initialized RX7 ∈ lw_tb) (hfs : ∀ j, j < 5 → defaultValue (tyX7 j) = vp_V fs j) (hc : cells + 1 ≤ R.cells) (hs : slots + 5 ≤ R.slots) (hdg : decode cc pc = .ok (.new index, 3))
    (kk : ∀ (q : Nat) (H1 : Heap), PI D K (ws ++ [(q, .inr (7, fs))]) s H1 → va_D A (ws ++ [(q, .inr (7, fs))]) → va_S A H0 H1 locs → W p l e R s m args below meth c H1 locs (cells + 1) (slots + 5) Q (F0 m (pc + 3) ls (.ref q :: rest))) : W p l e R s m args below meth c H locs cells slots Q (F0 m pc ls rest) :=
  va_new (ci := 7) (C := RX7) (T := TX7) (N := 5) S.1 S.2.1 S.2.2.2.2 inX7 tyX7 tyX7_ok S.2.2.2.1 (S.2.2.2.2 _ hcl) (S.2.2.2.2 _ hinst) (S.2.2.2.2 _ hini) hI.2 hI.1 hD hS hA rfl hfs hc hs hdg (fun q H1 hP1 hD1 hS1 => kk q H1 ⟨hP1, hI.2⟩ hD1 hS1)
theorem c7 {ad : Nat} {fs : List Value} {v : Value} {ty : FieldType} (S : CallFix p m c cc nL s args lw_tb own) (hI : PI D K ws s H) (hD : va_D A ws) (hS : va_S A H0 H locs) (q0 : Nat) (he : ws[q0]? = some (ad, .inr (7, fs))) (k : Nat) (hk : k < 5) (hl : Cond.fieldLink own index (TX7 k).1 (TX7 k).2.1 (TX7 k).2.2.1 ∈ lw_tb) (hfin : (TX7 k).2.2.2 = false) (hd : parseFieldDescriptor (TX7 k).2.2.1 = some ty) (hn : narrow ty v = v) (hfit : fits ty v = true) (hlen : k < fs.length) (hdg : decode cc pc = .ok (.putfield index, 3))
    (kk : ∀ (H1 : Heap) (locs1 : List Loc), PI D K (ws.set q0 (ad, .inr (7, fs.set k v))) s H1 → va_D A (ws.set q0 (ad, .inr (7, fs.set k v))) → va_S A H0 H1 locs1 → W p l e R s m args below meth c H1 locs1 cells slots Q (F0 m (pc + 3) ls rest)) : W p l e R s m args below meth c H locs cells slots Q (F0 m pc ls (v :: .ref ad :: rest)) :=
  va_put (C := RX7) (T := TX7) (N := 5) S.1 S.2.1 S.2.2.2.2 inX7 tyX7 tyX7_ok nmX7 S.2.2.2.1 hI.2 hI.1 hD hS q0 he rfl k hk (S.2.2.2.2 _ hl) (fun _ h9 => h9) hfin hd hn hfit hlen hdg (fun H1 locs1 hP1 hD1 hS1 => kk H1 locs1 ⟨hP1, hI.2⟩ hD1 hS1)
theorem f7 {ad : Nat} {fs : List Value} {v : Value} {ty : FieldType} (S : CallFix p m c cc nL s args lw_tb RX7) (hin : meth.name = "<init>") (hI : PI D K ws s H) (hD : va_D A ws) (hS : va_S A H0 H locs) (q0 : Nat) (he : ws[q0]? = some (ad, .inr (7, fs))) (k : Nat) (hk : k < 5) (hl : Cond.fieldLink RX7 index (TX7 k).1 (TX7 k).2.1 (TX7 k).2.2.1 ∈ lw_tb) (hfin : (TX7 k).2.2.2 = true) (hdecl : (TX7 k).1 = RX7) (hd : parseFieldDescriptor (TX7 k).2.2.1 = some ty) (hn : narrow ty v = v) (hfit : fits ty v = true) (hlen : k < fs.length) (hdg : decode cc pc = .ok (.putfield index, 3))
    (kk : ∀ (H1 : Heap) (locs1 : List Loc), PI D K (ws.set q0 (ad, .inr (7, fs.set k v))) s H1 → va_D A (ws.set q0 (ad, .inr (7, fs.set k v))) → va_S A H0 H1 locs1 → W p l e R s m args below meth c H1 locs1 cells slots Q (F0 m (pc + 3) ls rest)) : W p l e R s m args below meth c H locs cells slots Q (F0 m pc ls (v :: .ref ad :: rest)) :=
  va_putF (C := RX7) (T := TX7) (N := 5) S.1 S.2.1 S.2.2.2.2 inX7 tyX7 tyX7_ok nmX7 S.2.2.2.1 hI.2 hI.1 hD hS q0 he rfl k hk (S.2.2.2.2 _ hl) (fun _ h9 => h9) hfin hin hdecl hd hn hfit hlen hdg (fun H1 locs1 hP1 hD1 hS1 => kk H1 locs1 ⟨hP1, hI.2⟩ hD1 hS1)
theorem n8 {fs : List Value} (S : CallFix p m c cc nL s args lw_tb own) (hI : PI D K ws s H) (hD : va_D A ws) (hS : va_S A H0 H locs) (hA : ∀ q, H0.size ≤ q → A q) (hcl : Cond.classLink own index RX8 ∈ lw_tb) (hinst : Cond.instantiable RX8 15 ∈ lw_tb) (hini : Cond.initialized RX8 ∈ lw_tb) (hfs : ∀ j, j < 15 → defaultValue (tyX8 j) = vp_V fs j) (hc : cells + 1 ≤ R.cells) (hs : slots + 15 ≤ R.slots) (hdg : decode cc pc = .ok (.new index, 3))
    (kk : ∀ (q : Nat) (H1 : Heap), PI D K (ws ++ [(q, .inr (8, fs))]) s H1 → va_D A (ws ++ [(q, .inr (8, fs))]) → va_S A H0 H1 locs → W p l e R s m args below meth c H1 locs (cells + 1) (slots + 15) Q (F0 m (pc + 3) ls (.ref q :: rest))) : W p l e R s m args below meth c H locs cells slots Q (F0 m pc ls rest) :=
  va_new (ci := 8) (C := RX8) (T := TX8) (N := 15) S.1 S.2.1 S.2.2.2.2 inX8 tyX8 tyX8_ok S.2.2.2.1 (S.2.2.2.2 _ hcl) (S.2.2.2.2 _ hinst) (S.2.2.2.2 _ hini) hI.2 hI.1 hD hS hA rfl hfs hc hs hdg (fun q H1 hP1 hD1 hS1 => kk q H1 ⟨hP1, hI.2⟩ hD1 hS1)
theorem c8 {ad : Nat} {fs : List Value} {v : Value} {ty : FieldType} (S : CallFix p m c cc nL s args lw_tb own) (hI : PI D K ws s H) (hD : va_D A ws) (hS : va_S A H0 H locs) (q0 : Nat) (he : ws[q0]? = some (ad, .inr (8, fs))) (k : Nat) (hk : k < 15) (hl : Cond.fieldLink own index (TX8 k).1 (TX8 k).2.1 (TX8 k).2.2.1 ∈ lw_tb) (hfin : (TX8 k).2.2.2 = false) (hd : parseFieldDescriptor (TX8 k).2.2.1 = some ty) (hn : narrow ty v = v) (hfit : fits ty v = true) (hlen : k < fs.length) (hdg : decode cc pc = .ok (.putfield index, 3))
    (kk : ∀ (H1 : Heap) (locs1 : List Loc), PI D K (ws.set q0 (ad, .inr (8, fs.set k v))) s H1 → va_D A (ws.set q0 (ad, .inr (8, fs.set k v))) → va_S A H0 H1 locs1 → W p l e R s m args below meth c H1 locs1 cells slots Q (F0 m (pc + 3) ls rest)) : W p l e R s m args below meth c H locs cells slots Q (F0 m pc ls (v :: .ref ad :: rest)) :=
  va_put (C := RX8) (T := TX8) (N := 15) S.1 S.2.1 S.2.2.2.2 inX8 tyX8 tyX8_ok nmX8 S.2.2.2.1 hI.2 hI.1 hD hS q0 he rfl k hk (S.2.2.2.2 _ hl) (fun _ h9 => h9) hfin hd hn hfit hlen hdg (fun H1 locs1 hP1 hD1 hS1 => kk H1 locs1 ⟨hP1, hI.2⟩ hD1 hS1)
theorem f8 {ad : Nat} {fs : List Value} {v : Value} {ty : FieldType} (S : CallFix p m c cc nL s args lw_tb RX8) (hin : meth.name = "<init>") (hI : PI D K ws s H) (hD : va_D A ws) (hS : va_S A H0 H locs) (q0 : Nat) (he : ws[q0]? = some (ad, .inr (8, fs))) (k : Nat) (hk : k < 15) (hl : Cond.fieldLink RX8 index (TX8 k).1 (TX8 k).2.1 (TX8 k).2.2.1 ∈ lw_tb) (hfin : (TX8 k).2.2.2 = true) (hdecl : (TX8 k).1 = RX8) (hd : parseFieldDescriptor (TX8 k).2.2.1 = some ty) (hn : narrow ty v = v) (hfit : fits ty v = true) (hlen : k < fs.length) (hdg : decode cc pc = .ok (.putfield index, 3))
    (kk : ∀ (H1 : Heap) (locs1 : List Loc), PI D K (ws.set q0 (ad, .inr (8, fs.set k v))) s H1 → va_D A (ws.set q0 (ad, .inr (8, fs.set k v))) → va_S A H0 H1 locs1 → W p l e R s m args below meth c H1 locs1 cells slots Q (F0 m (pc + 3) ls rest)) : W p l e R s m args below meth c H locs cells slots Q (F0 m pc ls (v :: .ref ad :: rest)) :=
  va_putF (C := RX8) (T := TX8) (N := 15) S.1 S.2.1 S.2.2.2.2 inX8 tyX8 tyX8_ok nmX8 S.2.2.2.1 hI.2 hI.1 hD hS q0 he rfl k hk (S.2.2.2.2 _ hl) (fun _ h9 => h9) hfin hin hdecl hd hn hfit hlen hdg (fun H1 locs1 hP1 hD1 hS1 => kk H1 locs1 ⟨hP1, hI.2⟩ hD1 hS1)
end CN
