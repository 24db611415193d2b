/-! my rows on small naturals as ints, and branches that give facts on them -/
theorem nI_and {a b : Nat} (ha : a < 2 ^ 31) (hb : b < 2 ^ 31) : nI a &&& nI b = nI (a &&& b) := by
  have h : a &&& b < 2 ^ 31 := Nat.lt_of_le_of_lt Nat.and_le_left ha
  apply Int32.toBitVec_inj.mp
  apply BitVec.eq_of_toNat_eq
  rw [Int32.toBitVec_and, BitVec.toNat_and, pk_tn (by omega), pk_tn (by omega), pk_tn (by omega)]
theorem nI_or {a b : Nat} (ha : a < 2 ^ 31) (hb : b < 2 ^ 31) : nI a ||| nI b = nI (a ||| b) := by
  have h : a ||| b < 2 ^ 31 := Nat.or_lt_two_pow ha hb
  apply Int32.toBitVec_inj.mp
  apply BitVec.eq_of_toNat_eq
  rw [Int32.toBitVec_or, BitVec.toNat_or, pk_tn (by omega), pk_tn (by omega), pk_tn (by omega)]
theorem nI_xor {a b : Nat} (ha : a < 2 ^ 31) (hb : b < 2 ^ 31) : nI a ^^^ nI b = nI (a ^^^ b) := by
  have h : a ^^^ b < 2 ^ 31 := Nat.xor_lt_two_pow ha hb
  apply Int32.toBitVec_inj.mp
  apply BitVec.eq_of_toNat_eq
  rw [Int32.toBitVec_xor, BitVec.toNat_xor, pk_tn (by omega), pk_tn (by omega), pk_tn (by omega)]
theorem nI_sh31 : ∀ k, k < 32 → ((nI k &&& 31).toBitVec.smod 32).toNat = k := by decide +kernel
theorem nI_shr {a k : Nat} (ha : a < 2 ^ 31) (hk : k < 32) : nI a >>> (nI k &&& 31) = nI (a >>> k) := by
  rw [pk_shrN ha _ k (nI_sh31 k hk), Nat.shiftRight_eq_div_pow]
theorem nI_shl {a k : Nat} (hk : k < 32) (h : a <<< k < 2 ^ 31) : nI a <<< (nI k &&& 31) = nI (a <<< k) := by
  rw [Nat.shiftLeft_eq] at h ⊢
  exact pk_shlN _ k (nI_sh31 k hk) (by omega)
theorem nI_rem {a d : Nat} (ha : a < 2 ^ 31) (h0 : 0 < d) (hd : d < 2 ^ 31) : nI a - nI a / nI d * nI d = nI (a % d) := pk_rem ha h0 hd
theorem nI_z {a : Nat} (ha : a < 2 ^ 31) : nI a = 0 ↔ a = 0 := by rw [← nI_0]; exact nI_eq ha (by omega)
theorem nI_z1 {a : Nat} (ha : a < 2 ^ 31) (h : nI a = 0) : a = 0 := (nI_z ha).mp h
theorem nI_z2 {a : Nat} (ha : a < 2 ^ 31) (h : ¬ nI a = 0) : ¬ a = 0 := mt (nI_z ha).mpr h
theorem nI_e1 {a b : Nat} (ha : a < 2 ^ 31) (hb : b < 2 ^ 31) (h : nI a = nI b) : a = b := (nI_eq ha hb).mp h
theorem nI_e2 {a b : Nat} (ha : a < 2 ^ 31) (hb : b < 2 ^ 31) (h : ¬ nI a = nI b) : ¬ a = b := mt (nI_eq ha hb).mpr h
theorem nI_l1 {a b : Nat} (ha : a < 2 ^ 31) (hb : b < 2 ^ 31) (h : nI a < nI b) : a < b := (nI_ltI ha hb).mp h
theorem nI_l2 {a b : Nat} (ha : a < 2 ^ 31) (hb : b < 2 ^ 31) (h : ¬ nI a < nI b) : b ≤ a := Nat.le_of_not_lt (mt (nI_ltI ha hb).mpr h)
theorem nI_le1 {a b : Nat} (ha : a < 2 ^ 31) (hb : b < 2 ^ 31) (h : nI a ≤ nI b) : a ≤ b := (nI_leI ha hb).mp h
theorem nI_le2 {a b : Nat} (ha : a < 2 ^ 31) (hb : b < 2 ^ 31) (h : ¬ nI a ≤ nI b) : b < a := Nat.lt_of_not_le (mt (nI_leI ha hb).mpr h)
theorem nI_p1 {a : Nat} (ha : a < 2 ^ 31) (h : 0 < nI a) : 0 < a := by rw [← nI_0] at h; exact (nI_ltI (by omega) ha).mp h
theorem nI_p2 {a : Nat} (ha : a < 2 ^ 31) (h : ¬ 0 < nI a) : a = 0 := by
  rw [← nI_0] at h; have := mt (nI_ltI (by omega) ha).mpr h; omega
theorem nI_n1 {a : Nat} {P : Prop} (ha : a < 2 ^ 31) (h : nI a < 0) : P := absurd h (nI_pos ha)
theorem nI_n2 {a : Nat} (h : ¬ nI a < 0) : True := trivial
theorem bI_e1 {b : Bool} (h : bI b = 0) : b = false := bI_eq0.mp h
theorem bI_e2 {b : Bool} (h : ¬ bI b = 0) : b = true := by cases b <;> first | rfl | exact absurd rfl h
theorem and1 (a : Nat) : a &&& 1 = a % 2 := by rw [← Nat.and_one_is_mod]
theorem tb_sh {a k : Nat} : ((a >>> k) % 2 = 1) = (a.testBit k = true) := by
  rw [Nat.testBit_eq_decide_div_mod_eq, Nat.shiftRight_eq_div_pow]; simp
section KN
variable {p : Program} {l : Launch} {e : Env} {R : Room} {s : State} {m : MethodId} {args : Array Value} {below : List Frame} {meth : Method} {c : Code} {H : Heap} {locs : List Loc} {cells slots : Nat} {Q : State → Prop}
variable {cc : ByteArray} {nL pc tgt : Nat} {own : String} {ls : Array Slot} {rest : List Value} {x y : Int32} {off : Int} {P Pn : Prop}
theorem ly_ifeq (S : CallFix p m c cc nL s args lw_tb own) (h1 : x = 0 → P) (h2 : ¬ x = 0 → Pn) (hdg : decode cc pc = .ok (.ifCond .eq off, 3)) (ht : (pc : Int) + off = (tgt : Int)) (kt : P → W p l e R s m args below meth c H locs cells slots Q (F0 m tgt ls rest)) (kf : Pn → W p l e R s m args below meth c H locs cells slots Q (F0 m (pc + 3) ls rest)) : W p l e R s m args below meth c H locs cells slots Q (F0 m pc ls (.int x :: rest)) := lv_if_eq S.1 S.2.1 hdg ht (fun q => kt (h1 q)) (fun q => kf (h2 q))
theorem ly_ifne (S : CallFix p m c cc nL s args lw_tb own) (h1 : ¬ x = 0 → P) (h2 : x = 0 → Pn) (hdg : decode cc pc = .ok (.ifCond .ne off, 3)) (ht : (pc : Int) + off = (tgt : Int)) (kt : P → W p l e R s m args below meth c H locs cells slots Q (F0 m tgt ls rest)) (kf : Pn → W p l e R s m args below meth c H locs cells slots Q (F0 m (pc + 3) ls rest)) : W p l e R s m args below meth c H locs cells slots Q (F0 m pc ls (.int x :: rest)) := lv_if_ne S.1 S.2.1 hdg ht (fun q => kt (h1 q)) (fun q => kf (h2 q))
theorem ly_iflt (S : CallFix p m c cc nL s args lw_tb own) (h1 : x < 0 → P) (h2 : ¬ x < 0 → Pn) (hdg : decode cc pc = .ok (.ifCond .lt off, 3)) (ht : (pc : Int) + off = (tgt : Int)) (kt : P → W p l e R s m args below meth c H locs cells slots Q (F0 m tgt ls rest)) (kf : Pn → W p l e R s m args below meth c H locs cells slots Q (F0 m (pc + 3) ls rest)) : W p l e R s m args below meth c H locs cells slots Q (F0 m pc ls (.int x :: rest)) := lv_if_lt S.1 S.2.1 hdg ht (fun q => kt (h1 q)) (fun q => kf (h2 q))
theorem ly_ifge (S : CallFix p m c cc nL s args lw_tb own) (h1 : 0 ≤ x → P) (h2 : ¬ 0 ≤ x → Pn) (hdg : decode cc pc = .ok (.ifCond .ge off, 3)) (ht : (pc : Int) + off = (tgt : Int)) (kt : P → W p l e R s m args below meth c H locs cells slots Q (F0 m tgt ls rest)) (kf : Pn → W p l e R s m args below meth c H locs cells slots Q (F0 m (pc + 3) ls rest)) : W p l e R s m args below meth c H locs cells slots Q (F0 m pc ls (.int x :: rest)) := lv_if_ge S.1 S.2.1 hdg ht (fun q => kt (h1 q)) (fun q => kf (h2 q))
theorem ly_ifgt (S : CallFix p m c cc nL s args lw_tb own) (h1 : 0 < x → P) (h2 : ¬ 0 < x → Pn) (hdg : decode cc pc = .ok (.ifCond .gt off, 3)) (ht : (pc : Int) + off = (tgt : Int)) (kt : P → W p l e R s m args below meth c H locs cells slots Q (F0 m tgt ls rest)) (kf : Pn → W p l e R s m args below meth c H locs cells slots Q (F0 m (pc + 3) ls rest)) : W p l e R s m args below meth c H locs cells slots Q (F0 m pc ls (.int x :: rest)) := lv_if_gt S.1 S.2.1 hdg ht (fun q => kt (h1 q)) (fun q => kf (h2 q))
theorem ly_ifle (S : CallFix p m c cc nL s args lw_tb own) (h1 : x ≤ 0 → P) (h2 : ¬ x ≤ 0 → Pn) (hdg : decode cc pc = .ok (.ifCond .le off, 3)) (ht : (pc : Int) + off = (tgt : Int)) (kt : P → W p l e R s m args below meth c H locs cells slots Q (F0 m tgt ls rest)) (kf : Pn → W p l e R s m args below meth c H locs cells slots Q (F0 m (pc + 3) ls rest)) : W p l e R s m args below meth c H locs cells slots Q (F0 m pc ls (.int x :: rest)) := lv_if_le S.1 S.2.1 hdg ht (fun q => kt (h1 q)) (fun q => kf (h2 q))
theorem ly_cmeq (S : CallFix p m c cc nL s args lw_tb own) (h1 : x = y → P) (h2 : ¬ x = y → Pn) (hdg : decode cc pc = .ok (.if_icmp .eq off, 3)) (ht : (pc : Int) + off = (tgt : Int)) (kt : P → W p l e R s m args below meth c H locs cells slots Q (F0 m tgt ls rest)) (kf : Pn → W p l e R s m args below meth c H locs cells slots Q (F0 m (pc + 3) ls rest)) : W p l e R s m args below meth c H locs cells slots Q (F0 m pc ls (.int y :: .int x :: rest)) := lv_icmp_eq S.1 S.2.1 hdg ht (fun q => kt (h1 q)) (fun q => kf (h2 q))
theorem ly_cmne (S : CallFix p m c cc nL s args lw_tb own) (h1 : ¬ x = y → P) (h2 : x = y → Pn) (hdg : decode cc pc = .ok (.if_icmp .ne off, 3)) (ht : (pc : Int) + off = (tgt : Int)) (kt : P → W p l e R s m args below meth c H locs cells slots Q (F0 m tgt ls rest)) (kf : Pn → W p l e R s m args below meth c H locs cells slots Q (F0 m (pc + 3) ls rest)) : W p l e R s m args below meth c H locs cells slots Q (F0 m pc ls (.int y :: .int x :: rest)) := lv_icmp_ne S.1 S.2.1 hdg ht (fun q => kt (h1 q)) (fun q => kf (h2 q))
theorem ly_cmlt (S : CallFix p m c cc nL s args lw_tb own) (h1 : x < y → P) (h2 : ¬ x < y → Pn) (hdg : decode cc pc = .ok (.if_icmp .lt off, 3)) (ht : (pc : Int) + off = (tgt : Int)) (kt : P → W p l e R s m args below meth c H locs cells slots Q (F0 m tgt ls rest)) (kf : Pn → W p l e R s m args below meth c H locs cells slots Q (F0 m (pc + 3) ls rest)) : W p l e R s m args below meth c H locs cells slots Q (F0 m pc ls (.int y :: .int x :: rest)) := lv_icmp_lt S.1 S.2.1 hdg ht (fun q => kt (h1 q)) (fun q => kf (h2 q))
theorem ly_cmge (S : CallFix p m c cc nL s args lw_tb own) (h1 : y ≤ x → P) (h2 : ¬ y ≤ x → Pn) (hdg : decode cc pc = .ok (.if_icmp .ge off, 3)) (ht : (pc : Int) + off = (tgt : Int)) (kt : P → W p l e R s m args below meth c H locs cells slots Q (F0 m tgt ls rest)) (kf : Pn → W p l e R s m args below meth c H locs cells slots Q (F0 m (pc + 3) ls rest)) : W p l e R s m args below meth c H locs cells slots Q (F0 m pc ls (.int y :: .int x :: rest)) := lv_icmp_ge S.1 S.2.1 hdg ht (fun q => kt (h1 q)) (fun q => kf (h2 q))
theorem ly_cmgt (S : CallFix p m c cc nL s args lw_tb own) (h1 : y < x → P) (h2 : ¬ y < x → Pn) (hdg : decode cc pc = .ok (.if_icmp .gt off, 3)) (ht : (pc : Int) + off = (tgt : Int)) (kt : P → W p l e R s m args below meth c H locs cells slots Q (F0 m tgt ls rest)) (kf : Pn → W p l e R s m args below meth c H locs cells slots Q (F0 m (pc + 3) ls rest)) : W p l e R s m args below meth c H locs cells slots Q (F0 m pc ls (.int y :: .int x :: rest)) := lv_icmp_gt S.1 S.2.1 hdg ht (fun q => kt (h1 q)) (fun q => kf (h2 q))
theorem ly_cmle (S : CallFix p m c cc nL s args lw_tb own) (h1 : x ≤ y → P) (h2 : ¬ x ≤ y → Pn) (hdg : decode cc pc = .ok (.if_icmp .le off, 3)) (ht : (pc : Int) + off = (tgt : Int)) (kt : P → W p l e R s m args below meth c H locs cells slots Q (F0 m tgt ls rest)) (kf : Pn → W p l e R s m args below meth c H locs cells slots Q (F0 m (pc + 3) ls rest)) : W p l e R s m args below meth c H locs cells slots Q (F0 m pc ls (.int y :: .int x :: rest)) := lv_icmp_le S.1 S.2.1 hdg ht (fun q => kt (h1 q)) (fun q => kf (h2 q))
end KN
theorem tb1 {a k : Nat} (h : (a >>> k) % 2 = 1) : a.testBit k = true := tb_sh ▸ h
theorem tb0 {a k : Nat} (h : ¬ (a >>> k) % 2 = 1) : a.testBit k = false := by
  cases h9 : a.testBit k with
  | false => rfl
  | true => exact absurd (tb_sh (a := a) (k := k) ▸ h9) h
