/-! the law's 24 calls, case by case -/
section LO
variable {p : Program} {l : Launch} {e : Env} {s : State} {m : MethodId} {below : List Frame} {meth : Method} {c : Code} {H : Heap} {locs : List Loc} {Q : State → Prop} {ls : Array Slot}
variable {b0 L : Nat} {xs : Nat → Int32} {D : va_G} {K : Nat → ClassId} {a b : Nat → Nat} {i : Nat} {w n lap : Nat} {op mu ba la en : Nat → Nat} {pr : Nat → Option Nat} {sc : MSc} {u : CSc}
theorem lo_width_a {v : Int32} (e1 : xs (i + 1) = v) (hv : wiI v (nI 2) (nI 10) = false) (C : LC p s m c b0 L xs a b) (hi : i + 4 ≤ L) (hLL : L ≤ 2048) (hl : lv_has ls 4 (lvL b0 (b 0) (a 0) i)) (V : LV D K a b s H locs w n lap op mu ba la en pr sc u) (next : ∀ (H : Heap) (locs : List Loc), LVx D K a b s H locs → W p l e room_1 s m #[Value.ref b0] below meth c H locs 600000 7302250 Q (F0 m 717 ls [])) : W p l e room_1 s m #[Value.ref b0] below meth c H locs 600000 7302250 Q (F0 m 144 ls []) := by
  obtain ⟨S, hX, hbl, hda, hdb, hab, hga, hgb⟩ := C
  obtain ⟨hG, hsc, hVO, hM, hC, hS⟩ := V
  have hbA : ¬ (fun q : Nat => s.heap.size ≤ q) b0 := Nat.not_le.mpr hbl
  refine lv_aload_n S.1 S.2.1 dL_law_144 rfl (lv_at hl 1 rfl) ?_
  refine la_arg (k := 1) (z := 1) S hX hbl hbA hS hl (by omega) hLL e1 (by decide) dL_law_145 dL_law_146 dL_law_147 dL_law_148 dL_law_149 ?_
  refine kX7_width_a S hC hG hv tw_252 ro_1 hl.1 (Nat.le_of_ble_eq_true rfl) dL_law_150 ?_
  refine lv_aload_n S.1 S.2.1 dL_law_153 rfl (lv_at hl 2 rfl) ?_
  refine la_arg (k := 1) (z := 1) S hX hbl hbA hS hl (by omega) hLL e1 (by decide) dL_law_154 dL_law_155 dL_law_156 dL_law_157 dL_law_158 ?_
  refine kX8_width_a S hM hG hv tw_654 ro_1 hl.1 (Nat.le_of_ble_eq_true rfl) dL_law_159 ?_
  refine lv_icmp_eq (tgt := 717) S.1 S.2.1 dL_law_162 (by decide) (fun _ => ?_) (fun h => absurd rfl h)
  exact next _ _ ⟨_, _, _, _, _, _, _, _, _, sc, u, hG, hsc, hVO, hM, hC, hS⟩
theorem lo_width_b {k : Nat} (e1 : xs (i + 1) = nI k) (h1 : 2 ≤ k) (h2 : k ≤ 10) (C : LC p s m c b0 L xs a b) (hi : i + 4 ≤ L) (hLL : L ≤ 2048) (hl : lv_has ls 4 (lvL b0 (b 0) (a 0) i)) (V : LV D K a b s H locs w n lap op mu ba la en pr sc u) (next : ∀ (H : Heap) (locs : List Loc), LVx D K a b s H locs → W p l e room_1 s m #[Value.ref b0] below meth c H locs 600000 7302250 Q (F0 m 717 ls [])) : W p l e room_1 s m #[Value.ref b0] below meth c H locs 600000 7302250 Q (F0 m 144 ls []) := by
  obtain ⟨S, hX, hbl, hda, hdb, hab, hga, hgb⟩ := C
  obtain ⟨hG, hsc, hVO, hM, hC, hS⟩ := V
  have hbA : ¬ (fun q : Nat => s.heap.size ≤ q) b0 := Nat.not_le.mpr hbl
  refine lv_aload_n S.1 S.2.1 dL_law_144 rfl (lv_at hl 1 rfl) ?_
  refine la_arg (k := 1) (z := 1) S hX hbl hbA hS hl (by omega) hLL e1 (by decide) dL_law_145 dL_law_146 dL_law_147 dL_law_148 dL_law_149 ?_
  refine qX7_width_b S hC (fun q hq => adA_ge hgb hq) hS hdb hG hVO h1 h2 tw_252 ro_1 hl.1 (Nat.le_of_ble_eq_true rfl) dL_law_150 (fun u1 H1 locs1 hu1 hC hS hzz hkp => ?_)
  have hM := PI_kp hM (mW_ad fun i h1 j h2 e => hab i j h1 h2 e) hkp
  refine lv_aload_n S.1 S.2.1 dL_law_153 rfl (lv_at hl 2 rfl) ?_
  refine la_arg (k := 1) (z := 1) S hX hbl hbA hS hl (by omega) hLL e1 (by decide) dL_law_154 dL_law_155 dL_law_156 dL_law_157 dL_law_158 ?_
  refine qX8_width_b S hM (fun q hq => adA_ge hga hq) hS hda hG h1 h2 tw_654 ro_1 hl.1 (Nat.le_of_ble_eq_true rfl) dL_law_159 (fun u2 H2 locs2 hu2 hM hS hzz hkp => ?_)
  have hC := PI_kp hC (cW_ad fun j h1 i h2 e => hab i j h2 h1 e.symm) hkp
  refine lv_icmp_eq (tgt := 717) S.1 S.2.1 dL_law_162 (by decide) (fun _ => ?_) (fun h => absurd rfl h)
  exact next _ _ ⟨_, _, _, _, _, _, _, _, _, sc, u1, (GOK_w hG h1 h2), hsc, hu1, hM, hC, hS⟩
theorem lo_course_a  (h8 : n = 8) (C : LC p s m c b0 L xs a b) (hi : i + 4 ≤ L) (hLL : L ≤ 2048) (hl : lv_has ls 4 (lvL b0 (b 0) (a 0) i)) (V : LV D K a b s H locs w n lap op mu ba la en pr sc u) (next : ∀ (H : Heap) (locs : List Loc), LVx D K a b s H locs → W p l e room_1 s m #[Value.ref b0] below meth c H locs 600000 7302250 Q (F0 m 717 ls [])) : W p l e room_1 s m #[Value.ref b0] below meth c H locs 600000 7302250 Q (F0 m 167 ls []) := by
  obtain ⟨S, hX, hbl, hda, hdb, hab, hga, hgb⟩ := C
  obtain ⟨hG, hsc, hVO, hM, hC, hS⟩ := V
  have hbA : ¬ (fun q : Nat => s.heap.size ≤ q) b0 := Nat.not_le.mpr hbl
  refine lv_aload_n S.1 S.2.1 dL_law_167 rfl (lv_at hl 1 rfl) ?_
  refine kX7_course_a S hC hG h8 tw_272 ro_1 hl.1 (Nat.le_of_ble_eq_true rfl) dL_law_168 ?_
  refine lv_aload_n S.1 S.2.1 dL_law_171 rfl (lv_at hl 2 rfl) ?_
  refine kX8_course_a S hM hG h8 tw_661 ro_1 hl.1 (Nat.le_of_ble_eq_true rfl) dL_law_172 ?_
  refine lv_icmp_eq (tgt := 717) S.1 S.2.1 dL_law_175 (by decide) (fun _ => ?_) (fun h => absurd rfl h)
  exact next _ _ ⟨_, _, _, _, _, _, _, _, _, sc, u, hG, hsc, hVO, hM, hC, hS⟩
theorem lo_course_b  (h8 : n < 8) (C : LC p s m c b0 L xs a b) (hi : i + 4 ≤ L) (hLL : L ≤ 2048) (hl : lv_has ls 4 (lvL b0 (b 0) (a 0) i)) (V : LV D K a b s H locs w n lap op mu ba la en pr sc u) (next : ∀ (H : Heap) (locs : List Loc), LVx D K a b s H locs → W p l e room_1 s m #[Value.ref b0] below meth c H locs 600000 7302250 Q (F0 m 717 ls [])) : W p l e room_1 s m #[Value.ref b0] below meth c H locs 600000 7302250 Q (F0 m 167 ls []) := by
  obtain ⟨S, hX, hbl, hda, hdb, hab, hga, hgb⟩ := C
  obtain ⟨hG, hsc, hVO, hM, hC, hS⟩ := V
  have hbA : ¬ (fun q : Nat => s.heap.size ≤ q) b0 := Nat.not_le.mpr hbl
  refine lv_aload_n S.1 S.2.1 dL_law_167 rfl (lv_at hl 1 rfl) ?_
  refine qX7_course_b S hC (fun q hq => adA_ge hgb hq) hS hdb hG hVO h8 tw_272 ro_1 hl.1 (Nat.le_of_ble_eq_true rfl) dL_law_168 (fun u1 H1 locs1 hu1 hC hS hzz hkp => ?_)
  have hM := PI_kp hM (mW_ad fun i h1 j h2 e => hab i j h1 h2 e) hkp
  refine lv_aload_n S.1 S.2.1 dL_law_171 rfl (lv_at hl 2 rfl) ?_
  refine qX8_course_b S hM (fun q hq => adA_ge hga hq) hS hda hG h8 tw_661 ro_1 hl.1 (Nat.le_of_ble_eq_true rfl) dL_law_172 (fun u2 H2 locs2 hu2 hM hS hzz hkp => ?_)
  have hC := PI_kp hC (cW_ad fun j h1 i h2 e => hab i j h2 h1 e.symm) hkp
  refine lv_icmp_eq (tgt := 717) S.1 S.2.1 dL_law_175 (by decide) (fun _ => ?_) (fun h => absurd rfl h)
  exact next _ _ ⟨_, _, _, _, _, _, _, _, _, sc, u1, (GOK_c hG h8), hsc, hu1, hM, hC, hS⟩
theorem lo_take_a  (h0 : n = 0) (C : LC p s m c b0 L xs a b) (hi : i + 4 ≤ L) (hLL : L ≤ 2048) (hl : lv_has ls 4 (lvL b0 (b 0) (a 0) i)) (V : LV D K a b s H locs w n lap op mu ba la en pr sc u) (next : ∀ (H : Heap) (locs : List Loc), LVx D K a b s H locs → W p l e room_1 s m #[Value.ref b0] below meth c H locs 600000 7302250 Q (F0 m 717 ls [])) : W p l e room_1 s m #[Value.ref b0] below meth c H locs 600000 7302250 Q (F0 m 180 ls []) := by
  obtain ⟨S, hX, hbl, hda, hdb, hab, hga, hgb⟩ := C
  obtain ⟨hG, hsc, hVO, hM, hC, hS⟩ := V
  have hbA : ¬ (fun q : Nat => s.heap.size ≤ q) b0 := Nat.not_le.mpr hbl
  refine lv_aload_n S.1 S.2.1 dL_law_180 rfl (lv_at hl 1 rfl) ?_
  refine kX7_take_a S hC hG h0 tw_284 ro_1 hl.1 (Nat.le_of_ble_eq_true rfl) dL_law_181 ?_
  refine lv_aload_n S.1 S.2.1 dL_law_184 rfl (lv_at hl 2 rfl) ?_
  refine kX8_take_a S hM hG h0 tw_665 ro_1 hl.1 (Nat.le_of_ble_eq_true rfl) dL_law_185 ?_
  refine lv_icmp_eq (tgt := 717) S.1 S.2.1 dL_law_188 (by decide) (fun _ => ?_) (fun h => absurd rfl h)
  exact next _ _ ⟨_, _, _, _, _, _, _, _, _, sc, u, hG, hsc, hVO, hM, hC, hS⟩
theorem lo_take_b  (h0 : 1 ≤ n) (C : LC p s m c b0 L xs a b) (hi : i + 4 ≤ L) (hLL : L ≤ 2048) (hl : lv_has ls 4 (lvL b0 (b 0) (a 0) i)) (V : LV D K a b s H locs w n lap op mu ba la en pr sc u) (next : ∀ (H : Heap) (locs : List Loc), LVx D K a b s H locs → W p l e room_1 s m #[Value.ref b0] below meth c H locs 600000 7302250 Q (F0 m 717 ls [])) : W p l e room_1 s m #[Value.ref b0] below meth c H locs 600000 7302250 Q (F0 m 180 ls []) := by
  obtain ⟨S, hX, hbl, hda, hdb, hab, hga, hgb⟩ := C
  obtain ⟨hG, hsc, hVO, hM, hC, hS⟩ := V
  have hbA : ¬ (fun q : Nat => s.heap.size ≤ q) b0 := Nat.not_le.mpr hbl
  refine lv_aload_n S.1 S.2.1 dL_law_180 rfl (lv_at hl 1 rfl) ?_
  refine qX7_take_b S hC (fun q hq => adA_ge hgb hq) hS hdb hG hVO h0 tw_284 ro_1 hl.1 (Nat.le_of_ble_eq_true rfl) dL_law_181 (fun u1 H1 locs1 hu1 hC hS hzz hkp => ?_)
  have hM := PI_kp hM (mW_ad fun i h1 j h2 e => hab i j h1 h2 e) hkp
  refine lv_aload_n S.1 S.2.1 dL_law_184 rfl (lv_at hl 2 rfl) ?_
  refine qX8_take_b S hM (fun q hq => adA_ge hga hq) hS hda hG h0 tw_665 ro_1 hl.1 (Nat.le_of_ble_eq_true rfl) dL_law_185 (fun u2 H2 locs2 hu2 hM hS hzz hkp => ?_)
  have hC := PI_kp hC (cW_ad fun j h1 i h2 e => hab i j h2 h1 e.symm) hkp
  refine lv_icmp_eq (tgt := 717) S.1 S.2.1 dL_law_188 (by decide) (fun _ => ?_) (fun h => absurd rfl h)
  exact next _ _ ⟨_, _, _, _, _, _, _, _, _, sc, u1, (GOK_t hG), hsc, hu1, hM, hC, hS⟩
theorem lo_open_a {v z : Int32} (e1 : xs (i + 1) = v) (e2 : xs (i + 2) = z) (hv : wiI v 0 (nI n - 1) = false) (C : LC p s m c b0 L xs a b) (hi : i + 4 ≤ L) (hLL : L ≤ 2048) (hl : lv_has ls 4 (lvL b0 (b 0) (a 0) i)) (V : LV D K a b s H locs w n lap op mu ba la en pr sc u) (next : ∀ (H : Heap) (locs : List Loc), LVx D K a b s H locs → W p l e room_1 s m #[Value.ref b0] below meth c H locs 600000 7302250 Q (F0 m 717 ls [])) : W p l e room_1 s m #[Value.ref b0] below meth c H locs 600000 7302250 Q (F0 m 193 ls []) := by
  obtain ⟨S, hX, hbl, hda, hdb, hab, hga, hgb⟩ := C
  obtain ⟨hG, hsc, hVO, hM, hC, hS⟩ := V
  have hbA : ¬ (fun q : Nat => s.heap.size ≤ q) b0 := Nat.not_le.mpr hbl
  refine lv_aload_n S.1 S.2.1 dL_law_193 rfl (lv_at hl 1 rfl) ?_
  refine la_arg (k := 1) (z := 1) S hX hbl hbA hS hl (by omega) hLL e1 (by decide) dL_law_194 dL_law_195 dL_law_196 dL_law_197 dL_law_198 ?_
  refine la_arg (k := 2) (z := 2) S hX hbl hbA hS hl (by omega) hLL e2 (by decide) dL_law_199 dL_law_200 dL_law_201 dL_law_202 dL_law_203 ?_
  refine kX7_open_a S hC hG hv tw_288 ro_1 hl.1 (Nat.le_of_ble_eq_true rfl) dL_law_204 ?_
  refine lv_aload_n S.1 S.2.1 dL_law_207 rfl (lv_at hl 2 rfl) ?_
  refine la_arg (k := 1) (z := 1) S hX hbl hbA hS hl (by omega) hLL e1 (by decide) dL_law_208 dL_law_209 dL_law_210 dL_law_211 dL_law_212 ?_
  refine la_arg (k := 2) (z := 2) S hX hbl hbA hS hl (by omega) hLL e2 (by decide) dL_law_213 dL_law_214 dL_law_215 dL_law_216 dL_law_217 ?_
  refine kX8_open_a S hM hG hv tw_669 ro_1 hl.1 (Nat.le_of_ble_eq_true rfl) dL_law_218 ?_
  refine lv_icmp_eq (tgt := 717) S.1 S.2.1 dL_law_221 (by decide) (fun _ => ?_) (fun h => absurd rfl h)
  exact next _ _ ⟨_, _, _, _, _, _, _, _, _, sc, u, hG, hsc, hVO, hM, hC, hS⟩
theorem lo_open_b {ci : Nat} {z : Int32} (e1 : xs (i + 1) = nI ci) (e2 : xs (i + 2) = z) (hc : ci < n) (hz : wiI z (nI 0) (nI (2 ^ w - 1)) = false) (C : LC p s m c b0 L xs a b) (hi : i + 4 ≤ L) (hLL : L ≤ 2048) (hl : lv_has ls 4 (lvL b0 (b 0) (a 0) i)) (V : LV D K a b s H locs w n lap op mu ba la en pr sc u) (next : ∀ (H : Heap) (locs : List Loc), LVx D K a b s H locs → W p l e room_1 s m #[Value.ref b0] below meth c H locs 600000 7302250 Q (F0 m 717 ls [])) : W p l e room_1 s m #[Value.ref b0] below meth c H locs 600000 7302250 Q (F0 m 193 ls []) := by
  obtain ⟨S, hX, hbl, hda, hdb, hab, hga, hgb⟩ := C
  obtain ⟨hG, hsc, hVO, hM, hC, hS⟩ := V
  have hbA : ¬ (fun q : Nat => s.heap.size ≤ q) b0 := Nat.not_le.mpr hbl
  refine lv_aload_n S.1 S.2.1 dL_law_193 rfl (lv_at hl 1 rfl) ?_
  refine la_arg (k := 1) (z := 1) S hX hbl hbA hS hl (by omega) hLL e1 (by decide) dL_law_194 dL_law_195 dL_law_196 dL_law_197 dL_law_198 ?_
  refine la_arg (k := 2) (z := 2) S hX hbl hbA hS hl (by omega) hLL e2 (by decide) dL_law_199 dL_law_200 dL_law_201 dL_law_202 dL_law_203 ?_
  refine kX7_open_b S hC hG hc hz tw_288 ro_1 hl.1 (Nat.le_of_ble_eq_true rfl) dL_law_204 ?_
  refine lv_aload_n S.1 S.2.1 dL_law_207 rfl (lv_at hl 2 rfl) ?_
  refine la_arg (k := 1) (z := 1) S hX hbl hbA hS hl (by omega) hLL e1 (by decide) dL_law_208 dL_law_209 dL_law_210 dL_law_211 dL_law_212 ?_
  refine la_arg (k := 2) (z := 2) S hX hbl hbA hS hl (by omega) hLL e2 (by decide) dL_law_213 dL_law_214 dL_law_215 dL_law_216 dL_law_217 ?_
  refine kX8_open_b S hM hG hc hz tw_669 ro_1 hl.1 (Nat.le_of_ble_eq_true rfl) dL_law_218 ?_
  refine lv_icmp_eq (tgt := 717) S.1 S.2.1 dL_law_221 (by decide) (fun _ => ?_) (fun h => absurd rfl h)
  exact next _ _ ⟨_, _, _, _, _, _, _, _, _, sc, u, hG, hsc, hVO, hM, hC, hS⟩
theorem lo_open_c {ci k : Nat} (e1 : xs (i + 1) = nI ci) (e2 : xs (i + 2) = nI k) (hc : ci < n) (hk : k < 2 ^ w) (C : LC p s m c b0 L xs a b) (hi : i + 4 ≤ L) (hLL : L ≤ 2048) (hl : lv_has ls 4 (lvL b0 (b 0) (a 0) i)) (V : LV D K a b s H locs w n lap op mu ba la en pr sc u) (next : ∀ (H : Heap) (locs : List Loc), LVx D K a b s H locs → W p l e room_1 s m #[Value.ref b0] below meth c H locs 600000 7302250 Q (F0 m 717 ls [])) : W p l e room_1 s m #[Value.ref b0] below meth c H locs 600000 7302250 Q (F0 m 193 ls []) := by
  obtain ⟨S, hX, hbl, hda, hdb, hab, hga, hgb⟩ := C
  obtain ⟨hG, hsc, hVO, hM, hC, hS⟩ := V
  have hbA : ¬ (fun q : Nat => s.heap.size ≤ q) b0 := Nat.not_le.mpr hbl
  refine lv_aload_n S.1 S.2.1 dL_law_193 rfl (lv_at hl 1 rfl) ?_
  refine la_arg (k := 1) (z := 1) S hX hbl hbA hS hl (by omega) hLL e1 (by decide) dL_law_194 dL_law_195 dL_law_196 dL_law_197 dL_law_198 ?_
  refine la_arg (k := 2) (z := 2) S hX hbl hbA hS hl (by omega) hLL e2 (by decide) dL_law_199 dL_law_200 dL_law_201 dL_law_202 dL_law_203 ?_
  refine qX7_open_c S hC (fun q hq => adA_ge hgb hq) hS hdb hG hVO hc hk tw_288 ro_1 hl.1 (Nat.le_of_ble_eq_true rfl) dL_law_204 (fun u1 H1 locs1 hu1 hC hS hzz hkp => ?_)
  have hM := PI_kp hM (mW_ad fun i h1 j h2 e => hab i j h1 h2 e) hkp
  refine lv_aload_n S.1 S.2.1 dL_law_207 rfl (lv_at hl 2 rfl) ?_
  refine la_arg (k := 1) (z := 1) S hX hbl hbA hS hl (by omega) hLL e1 (by decide) dL_law_208 dL_law_209 dL_law_210 dL_law_211 dL_law_212 ?_
  refine la_arg (k := 2) (z := 2) S hX hbl hbA hS hl (by omega) hLL e2 (by decide) dL_law_213 dL_law_214 dL_law_215 dL_law_216 dL_law_217 ?_
  refine qX8_open_c S hM (fun q hq => adA_ge hga hq) hS hda hG hc hk tw_669 ro_1 hl.1 (Nat.le_of_ble_eq_true rfl) dL_law_218 (fun u2 H2 locs2 hu2 hM hS hzz hkp => ?_)
  have hC := PI_kp hC (cW_ad fun j h1 i h2 e => hab i j h2 h1 e.symm) hkp
  refine lv_icmp_eq (tgt := 717) S.1 S.2.1 dL_law_221 (by decide) (fun _ => ?_) (fun h => absurd rfl h)
  exact next _ _ ⟨_, _, _, _, _, _, _, _, _, sc, u1, (GOK_o hG hk), hsc, hu1, hM, hC, hS⟩
theorem lo_must_a {v hw z : Int32} (e1 : xs (i + 1) = v) (e2 : xs (i + 2) = hw) (e3 : xs (i + 3) = z) (hv : wiI v 0 (nI n - 1) = false) (C : LC p s m c b0 L xs a b) (hi : i + 4 ≤ L) (hLL : L ≤ 2048) (hl : lv_has ls 4 (lvL b0 (b 0) (a 0) i)) (V : LV D K a b s H locs w n lap op mu ba la en pr sc u) (next : ∀ (H : Heap) (locs : List Loc), LVx D K a b s H locs → W p l e room_1 s m #[Value.ref b0] below meth c H locs 600000 7302250 Q (F0 m 717 ls [])) : W p l e room_1 s m #[Value.ref b0] below meth c H locs 600000 7302250 Q (F0 m 226 ls []) := by
  obtain ⟨S, hX, hbl, hda, hdb, hab, hga, hgb⟩ := C
  obtain ⟨hG, hsc, hVO, hM, hC, hS⟩ := V
  have hbA : ¬ (fun q : Nat => s.heap.size ≤ q) b0 := Nat.not_le.mpr hbl
  refine lv_aload_n S.1 S.2.1 dL_law_226 rfl (lv_at hl 1 rfl) ?_
  refine la_arg (k := 1) (z := 1) S hX hbl hbA hS hl (by omega) hLL e1 (by decide) dL_law_227 dL_law_228 dL_law_229 dL_law_230 dL_law_231 ?_
  refine la_arg (k := 2) (z := 2) S hX hbl hbA hS hl (by omega) hLL e2 (by decide) dL_law_232 dL_law_233 dL_law_234 dL_law_235 dL_law_236 ?_
  refine la_arg (k := 3) (z := 3) S hX hbl hbA hS hl (by omega) hLL e3 (by decide) dL_law_237 dL_law_238 dL_law_239 dL_law_240 dL_law_241 ?_
  refine kX7_must_a S hC hG hv tw_300 ro_1 hl.1 (Nat.le_of_ble_eq_true rfl) dL_law_242 ?_
  refine lv_aload_n S.1 S.2.1 dL_law_245 rfl (lv_at hl 2 rfl) ?_
  refine la_arg (k := 1) (z := 1) S hX hbl hbA hS hl (by omega) hLL e1 (by decide) dL_law_246 dL_law_247 dL_law_248 dL_law_249 dL_law_250 ?_
  refine la_arg (k := 2) (z := 2) S hX hbl hbA hS hl (by omega) hLL e2 (by decide) dL_law_251 dL_law_252 dL_law_253 dL_law_254 dL_law_255 ?_
  refine la_arg (k := 3) (z := 3) S hX hbl hbA hS hl (by omega) hLL e3 (by decide) dL_law_256 dL_law_257 dL_law_258 dL_law_259 dL_law_260 ?_
  refine kX8_must_a S hM hG hv tw_677 ro_1 hl.1 (Nat.le_of_ble_eq_true rfl) dL_law_261 ?_
  refine lv_icmp_eq (tgt := 717) S.1 S.2.1 dL_law_264 (by decide) (fun _ => ?_) (fun h => absurd rfl h)
  exact next _ _ ⟨_, _, _, _, _, _, _, _, _, sc, u, hG, hsc, hVO, hM, hC, hS⟩
theorem lo_must_b {ci : Nat} {hw z : Int32} (e1 : xs (i + 1) = nI ci) (e2 : xs (i + 2) = hw) (e3 : xs (i + 3) = z) (hc : ci < n) (hz : (wiI hw (nI 0) (nI 1) && plI w z) = false) (C : LC p s m c b0 L xs a b) (hi : i + 4 ≤ L) (hLL : L ≤ 2048) (hl : lv_has ls 4 (lvL b0 (b 0) (a 0) i)) (V : LV D K a b s H locs w n lap op mu ba la en pr sc u) (next : ∀ (H : Heap) (locs : List Loc), LVx D K a b s H locs → W p l e room_1 s m #[Value.ref b0] below meth c H locs 600000 7302250 Q (F0 m 717 ls [])) : W p l e room_1 s m #[Value.ref b0] below meth c H locs 600000 7302250 Q (F0 m 226 ls []) := by
  obtain ⟨S, hX, hbl, hda, hdb, hab, hga, hgb⟩ := C
  obtain ⟨hG, hsc, hVO, hM, hC, hS⟩ := V
  have hbA : ¬ (fun q : Nat => s.heap.size ≤ q) b0 := Nat.not_le.mpr hbl
  refine lv_aload_n S.1 S.2.1 dL_law_226 rfl (lv_at hl 1 rfl) ?_
  refine la_arg (k := 1) (z := 1) S hX hbl hbA hS hl (by omega) hLL e1 (by decide) dL_law_227 dL_law_228 dL_law_229 dL_law_230 dL_law_231 ?_
  refine la_arg (k := 2) (z := 2) S hX hbl hbA hS hl (by omega) hLL e2 (by decide) dL_law_232 dL_law_233 dL_law_234 dL_law_235 dL_law_236 ?_
  refine la_arg (k := 3) (z := 3) S hX hbl hbA hS hl (by omega) hLL e3 (by decide) dL_law_237 dL_law_238 dL_law_239 dL_law_240 dL_law_241 ?_
  refine kX7_must_b S hC hG hc hz tw_300 ro_1 hl.1 (Nat.le_of_ble_eq_true rfl) dL_law_242 ?_
  refine lv_aload_n S.1 S.2.1 dL_law_245 rfl (lv_at hl 2 rfl) ?_
  refine la_arg (k := 1) (z := 1) S hX hbl hbA hS hl (by omega) hLL e1 (by decide) dL_law_246 dL_law_247 dL_law_248 dL_law_249 dL_law_250 ?_
  refine la_arg (k := 2) (z := 2) S hX hbl hbA hS hl (by omega) hLL e2 (by decide) dL_law_251 dL_law_252 dL_law_253 dL_law_254 dL_law_255 ?_
  refine la_arg (k := 3) (z := 3) S hX hbl hbA hS hl (by omega) hLL e3 (by decide) dL_law_256 dL_law_257 dL_law_258 dL_law_259 dL_law_260 ?_
  refine kX8_must_b S hM hG hc hz tw_677 ro_1 hl.1 (Nat.le_of_ble_eq_true rfl) dL_law_261 ?_
  refine lv_icmp_eq (tgt := 717) S.1 S.2.1 dL_law_264 (by decide) (fun _ => ?_) (fun h => absurd rfl h)
  exact next _ _ ⟨_, _, _, _, _, _, _, _, _, sc, u, hG, hsc, hVO, hM, hC, hS⟩
theorem lo_must_c1 {ci k : Nat} (e1 : xs (i + 1) = nI ci) (e2 : xs (i + 2) = nI 1) (e3 : xs (i + 3) = nI k) (hc : ci < n) (hk : k < 2 ^ w) (hk2 : k % 2 = 0) (C : LC p s m c b0 L xs a b) (hi : i + 4 ≤ L) (hLL : L ≤ 2048) (hl : lv_has ls 4 (lvL b0 (b 0) (a 0) i)) (V : LV D K a b s H locs w n lap op mu ba la en pr sc u) (next : ∀ (H : Heap) (locs : List Loc), LVx D K a b s H locs → W p l e room_1 s m #[Value.ref b0] below meth c H locs 600000 7302250 Q (F0 m 717 ls [])) : W p l e room_1 s m #[Value.ref b0] below meth c H locs 600000 7302250 Q (F0 m 226 ls []) := by
  obtain ⟨S, hX, hbl, hda, hdb, hab, hga, hgb⟩ := C
  obtain ⟨hG, hsc, hVO, hM, hC, hS⟩ := V
  have hbA : ¬ (fun q : Nat => s.heap.size ≤ q) b0 := Nat.not_le.mpr hbl
  refine lv_aload_n S.1 S.2.1 dL_law_226 rfl (lv_at hl 1 rfl) ?_
  refine la_arg (k := 1) (z := 1) S hX hbl hbA hS hl (by omega) hLL e1 (by decide) dL_law_227 dL_law_228 dL_law_229 dL_law_230 dL_law_231 ?_
  refine la_arg (k := 2) (z := 2) S hX hbl hbA hS hl (by omega) hLL e2 (by decide) dL_law_232 dL_law_233 dL_law_234 dL_law_235 dL_law_236 ?_
  refine la_arg (k := 3) (z := 3) S hX hbl hbA hS hl (by omega) hLL e3 (by decide) dL_law_237 dL_law_238 dL_law_239 dL_law_240 dL_law_241 ?_
  refine qX7_must_c1 S hC (fun q hq => adA_ge hgb hq) hS hdb hG hVO hc hk hk2 tw_300 ro_1 hl.1 (Nat.le_of_ble_eq_true rfl) dL_law_242 (fun u1 H1 locs1 hu1 hC hS hzz hkp => ?_)
  have hM := PI_kp hM (mW_ad fun i h1 j h2 e => hab i j h1 h2 e) hkp
  refine lv_aload_n S.1 S.2.1 dL_law_245 rfl (lv_at hl 2 rfl) ?_
  refine la_arg (k := 1) (z := 1) S hX hbl hbA hS hl (by omega) hLL e1 (by decide) dL_law_246 dL_law_247 dL_law_248 dL_law_249 dL_law_250 ?_
  refine la_arg (k := 2) (z := 2) S hX hbl hbA hS hl (by omega) hLL e2 (by decide) dL_law_251 dL_law_252 dL_law_253 dL_law_254 dL_law_255 ?_
  refine la_arg (k := 3) (z := 3) S hX hbl hbA hS hl (by omega) hLL e3 (by decide) dL_law_256 dL_law_257 dL_law_258 dL_law_259 dL_law_260 ?_
  refine qX8_must_c1 S hM (fun q hq => adA_ge hga hq) hS hda hG hc hk hk2 tw_677 ro_1 hl.1 (Nat.le_of_ble_eq_true rfl) dL_law_261 (fun u2 H2 locs2 hu2 hM hS hzz hkp => ?_)
  have hC := PI_kp hC (cW_ad fun j h1 i h2 e => hab i j h2 h1 e.symm) hkp
  refine lv_icmp_eq (tgt := 717) S.1 S.2.1 dL_law_264 (by decide) (fun _ => ?_) (fun h => absurd rfl h)
  exact next _ _ ⟨_, _, _, _, _, _, _, _, _, sc, u1, (GOK_m hG hk hk2), hsc, hu1, hM, hC, hS⟩
theorem lo_must_c0 {ci k : Nat} (e1 : xs (i + 1) = nI ci) (e2 : xs (i + 2) = nI 0) (e3 : xs (i + 3) = nI k) (hc : ci < n) (hk : k < 2 ^ w) (hk2 : k % 2 = 0) (C : LC p s m c b0 L xs a b) (hi : i + 4 ≤ L) (hLL : L ≤ 2048) (hl : lv_has ls 4 (lvL b0 (b 0) (a 0) i)) (V : LV D K a b s H locs w n lap op mu ba la en pr sc u) (next : ∀ (H : Heap) (locs : List Loc), LVx D K a b s H locs → W p l e room_1 s m #[Value.ref b0] below meth c H locs 600000 7302250 Q (F0 m 717 ls [])) : W p l e room_1 s m #[Value.ref b0] below meth c H locs 600000 7302250 Q (F0 m 226 ls []) := by
  obtain ⟨S, hX, hbl, hda, hdb, hab, hga, hgb⟩ := C
  obtain ⟨hG, hsc, hVO, hM, hC, hS⟩ := V
  have hbA : ¬ (fun q : Nat => s.heap.size ≤ q) b0 := Nat.not_le.mpr hbl
  refine lv_aload_n S.1 S.2.1 dL_law_226 rfl (lv_at hl 1 rfl) ?_
  refine la_arg (k := 1) (z := 1) S hX hbl hbA hS hl (by omega) hLL e1 (by decide) dL_law_227 dL_law_228 dL_law_229 dL_law_230 dL_law_231 ?_
  refine la_arg (k := 2) (z := 2) S hX hbl hbA hS hl (by omega) hLL e2 (by decide) dL_law_232 dL_law_233 dL_law_234 dL_law_235 dL_law_236 ?_
  refine la_arg (k := 3) (z := 3) S hX hbl hbA hS hl (by omega) hLL e3 (by decide) dL_law_237 dL_law_238 dL_law_239 dL_law_240 dL_law_241 ?_
  refine qX7_must_c0 S hC (fun q hq => adA_ge hgb hq) hS hdb hG hVO hc hk hk2 tw_300 ro_1 hl.1 (Nat.le_of_ble_eq_true rfl) dL_law_242 (fun u1 H1 locs1 hu1 hC hS hzz hkp => ?_)
  have hM := PI_kp hM (mW_ad fun i h1 j h2 e => hab i j h1 h2 e) hkp
  refine lv_aload_n S.1 S.2.1 dL_law_245 rfl (lv_at hl 2 rfl) ?_
  refine la_arg (k := 1) (z := 1) S hX hbl hbA hS hl (by omega) hLL e1 (by decide) dL_law_246 dL_law_247 dL_law_248 dL_law_249 dL_law_250 ?_
  refine la_arg (k := 2) (z := 2) S hX hbl hbA hS hl (by omega) hLL e2 (by decide) dL_law_251 dL_law_252 dL_law_253 dL_law_254 dL_law_255 ?_
  refine la_arg (k := 3) (z := 3) S hX hbl hbA hS hl (by omega) hLL e3 (by decide) dL_law_256 dL_law_257 dL_law_258 dL_law_259 dL_law_260 ?_
  refine qX8_must_c0 S hM (fun q hq => adA_ge hga hq) hS hda hG hc hk hk2 tw_677 ro_1 hl.1 (Nat.le_of_ble_eq_true rfl) dL_law_261 (fun u2 H2 locs2 hu2 hM hS hzz hkp => ?_)
  have hC := PI_kp hC (cW_ad fun j h1 i h2 e => hab i j h2 h1 e.symm) hkp
  refine lv_icmp_eq (tgt := 717) S.1 S.2.1 dL_law_264 (by decide) (fun _ => ?_) (fun h => absurd rfl h)
  exact next _ _ ⟨_, _, _, _, _, _, _, _, _, sc, u1, (GOK_b hG hk hk2), hsc, hu1, hM, hC, hS⟩
theorem lo_price_a {le v : Int32} (e1 : xs (i + 1) = le) (e2 : xs (i + 2) = v) (hv : (wiI le (nI 1) (nI 6) && (decide (v = -9) || wiI v (nI 0) (nI 99))) = false) (C : LC p s m c b0 L xs a b) (hi : i + 4 ≤ L) (hLL : L ≤ 2048) (hl : lv_has ls 4 (lvL b0 (b 0) (a 0) i)) (V : LV D K a b s H locs w n lap op mu ba la en pr sc u) (next : ∀ (H : Heap) (locs : List Loc), LVx D K a b s H locs → W p l e room_1 s m #[Value.ref b0] below meth c H locs 600000 7302250 Q (F0 m 717 ls [])) : W p l e room_1 s m #[Value.ref b0] below meth c H locs 600000 7302250 Q (F0 m 269 ls []) := by
  obtain ⟨S, hX, hbl, hda, hdb, hab, hga, hgb⟩ := C
  obtain ⟨hG, hsc, hVO, hM, hC, hS⟩ := V
  have hbA : ¬ (fun q : Nat => s.heap.size ≤ q) b0 := Nat.not_le.mpr hbl
  refine lv_aload_n S.1 S.2.1 dL_law_269 rfl (lv_at hl 1 rfl) ?_
  refine la_arg (k := 1) (z := 1) S hX hbl hbA hS hl (by omega) hLL e1 (by decide) dL_law_270 dL_law_271 dL_law_272 dL_law_273 dL_law_274 ?_
  refine la_arg (k := 2) (z := 2) S hX hbl hbA hS hl (by omega) hLL e2 (by decide) dL_law_275 dL_law_276 dL_law_277 dL_law_278 dL_law_279 ?_
  refine kX7_price_a S hC hG hv tw_309 ro_1 hl.1 (Nat.le_of_ble_eq_true rfl) dL_law_280 ?_
  refine lv_aload_n S.1 S.2.1 dL_law_283 rfl (lv_at hl 2 rfl) ?_
  refine la_arg (k := 1) (z := 1) S hX hbl hbA hS hl (by omega) hLL e1 (by decide) dL_law_284 dL_law_285 dL_law_286 dL_law_287 dL_law_288 ?_
  refine la_arg (k := 2) (z := 2) S hX hbl hbA hS hl (by omega) hLL e2 (by decide) dL_law_289 dL_law_290 dL_law_291 dL_law_292 dL_law_293 ?_
  refine kX8_price_a S hM hG hv tw_685 ro_1 hl.1 (Nat.le_of_ble_eq_true rfl) dL_law_294 ?_
  refine lv_icmp_eq (tgt := 717) S.1 S.2.1 dL_law_297 (by decide) (fun _ => ?_) (fun h => absurd rfl h)
  exact next _ _ ⟨_, _, _, _, _, _, _, _, _, sc, u, hG, hsc, hVO, hM, hC, hS⟩
theorem lo_price_b {L0 : Nat} {q : Option Nat} (e1 : xs (i + 1) = nI L0) (e2 : xs (i + 2) = pI q) (hL1 : 1 ≤ L0) (hL2 : L0 ≤ 6) (hq : ∀ k, q = some k → k ≤ 99) (C : LC p s m c b0 L xs a b) (hi : i + 4 ≤ L) (hLL : L ≤ 2048) (hl : lv_has ls 4 (lvL b0 (b 0) (a 0) i)) (V : LV D K a b s H locs w n lap op mu ba la en pr sc u) (next : ∀ (H : Heap) (locs : List Loc), LVx D K a b s H locs → W p l e room_1 s m #[Value.ref b0] below meth c H locs 600000 7302250 Q (F0 m 717 ls [])) : W p l e room_1 s m #[Value.ref b0] below meth c H locs 600000 7302250 Q (F0 m 269 ls []) := by
  obtain ⟨S, hX, hbl, hda, hdb, hab, hga, hgb⟩ := C
  obtain ⟨hG, hsc, hVO, hM, hC, hS⟩ := V
  have hbA : ¬ (fun q : Nat => s.heap.size ≤ q) b0 := Nat.not_le.mpr hbl
  refine lv_aload_n S.1 S.2.1 dL_law_269 rfl (lv_at hl 1 rfl) ?_
  refine la_arg (k := 1) (z := 1) S hX hbl hbA hS hl (by omega) hLL e1 (by decide) dL_law_270 dL_law_271 dL_law_272 dL_law_273 dL_law_274 ?_
  refine la_arg (k := 2) (z := 2) S hX hbl hbA hS hl (by omega) hLL e2 (by decide) dL_law_275 dL_law_276 dL_law_277 dL_law_278 dL_law_279 ?_
  refine qX7_price_b S hC (fun q hq => adA_ge hgb hq) hS hdb hG hVO hL1 hL2 hq tw_309 ro_1 hl.1 (Nat.le_of_ble_eq_true rfl) dL_law_280 (fun u1 H1 locs1 hu1 hC hS hzz hkp => ?_)
  have hM := PI_kp hM (mW_ad fun i h1 j h2 e => hab i j h1 h2 e) hkp
  refine lv_aload_n S.1 S.2.1 dL_law_283 rfl (lv_at hl 2 rfl) ?_
  refine la_arg (k := 1) (z := 1) S hX hbl hbA hS hl (by omega) hLL e1 (by decide) dL_law_284 dL_law_285 dL_law_286 dL_law_287 dL_law_288 ?_
  refine la_arg (k := 2) (z := 2) S hX hbl hbA hS hl (by omega) hLL e2 (by decide) dL_law_289 dL_law_290 dL_law_291 dL_law_292 dL_law_293 ?_
  refine qX8_price_b S hM (fun q hq => adA_ge hga hq) hS hda hG hL1 hL2 hq tw_685 ro_1 hl.1 (Nat.le_of_ble_eq_true rfl) dL_law_294 (fun u2 H2 locs2 hu2 hM hS hzz hkp => ?_)
  have hC := PI_kp hC (cW_ad fun j h1 i h2 e => hab i j h2 h1 e.symm) hkp
  refine lv_icmp_eq (tgt := 717) S.1 S.2.1 dL_law_297 (by decide) (fun _ => ?_) (fun h => absurd rfl h)
  exact next _ _ ⟨_, _, _, _, _, _, _, _, _, sc, u1, (GOK_p hG hq), hsc, hu1, hM, hC, hS⟩
theorem lo_lap_a {v : Int32} (e1 : xs (i + 1) = v) (hv : wiI v (nI 1) (nI 3) = false) (C : LC p s m c b0 L xs a b) (hi : i + 4 ≤ L) (hLL : L ≤ 2048) (hl : lv_has ls 4 (lvL b0 (b 0) (a 0) i)) (V : LV D K a b s H locs w n lap op mu ba la en pr sc u) (next : ∀ (H : Heap) (locs : List Loc), LVx D K a b s H locs → W p l e room_1 s m #[Value.ref b0] below meth c H locs 600000 7302250 Q (F0 m 717 ls [])) : W p l e room_1 s m #[Value.ref b0] below meth c H locs 600000 7302250 Q (F0 m 302 ls []) := by
  obtain ⟨S, hX, hbl, hda, hdb, hab, hga, hgb⟩ := C
  obtain ⟨hG, hsc, hVO, hM, hC, hS⟩ := V
  have hbA : ¬ (fun q : Nat => s.heap.size ≤ q) b0 := Nat.not_le.mpr hbl
  refine lv_aload_n S.1 S.2.1 dL_law_302 rfl (lv_at hl 1 rfl) ?_
  refine la_arg (k := 1) (z := 1) S hX hbl hbA hS hl (by omega) hLL e1 (by decide) dL_law_303 dL_law_304 dL_law_305 dL_law_306 dL_law_307 ?_
  refine kX7_lap_a S hC hG hv tw_317 ro_1 hl.1 (Nat.le_of_ble_eq_true rfl) dL_law_308 ?_
  refine lv_aload_n S.1 S.2.1 dL_law_311 rfl (lv_at hl 2 rfl) ?_
  refine la_arg (k := 1) (z := 1) S hX hbl hbA hS hl (by omega) hLL e1 (by decide) dL_law_312 dL_law_313 dL_law_314 dL_law_315 dL_law_316 ?_
  refine kX8_lap_a S hM hG hv tw_689 ro_1 hl.1 (Nat.le_of_ble_eq_true rfl) dL_law_317 ?_
  refine lv_icmp_eq (tgt := 717) S.1 S.2.1 dL_law_320 (by decide) (fun _ => ?_) (fun h => absurd rfl h)
  exact next _ _ ⟨_, _, _, _, _, _, _, _, _, sc, u, hG, hsc, hVO, hM, hC, hS⟩
theorem lo_lap_b {k : Nat} (e1 : xs (i + 1) = nI k) (h1 : 1 ≤ k) (h2 : k ≤ 3) (C : LC p s m c b0 L xs a b) (hi : i + 4 ≤ L) (hLL : L ≤ 2048) (hl : lv_has ls 4 (lvL b0 (b 0) (a 0) i)) (V : LV D K a b s H locs w n lap op mu ba la en pr sc u) (next : ∀ (H : Heap) (locs : List Loc), LVx D K a b s H locs → W p l e room_1 s m #[Value.ref b0] below meth c H locs 600000 7302250 Q (F0 m 717 ls [])) : W p l e room_1 s m #[Value.ref b0] below meth c H locs 600000 7302250 Q (F0 m 302 ls []) := by
  obtain ⟨S, hX, hbl, hda, hdb, hab, hga, hgb⟩ := C
  obtain ⟨hG, hsc, hVO, hM, hC, hS⟩ := V
  have hbA : ¬ (fun q : Nat => s.heap.size ≤ q) b0 := Nat.not_le.mpr hbl
  refine lv_aload_n S.1 S.2.1 dL_law_302 rfl (lv_at hl 1 rfl) ?_
  refine la_arg (k := 1) (z := 1) S hX hbl hbA hS hl (by omega) hLL e1 (by decide) dL_law_303 dL_law_304 dL_law_305 dL_law_306 dL_law_307 ?_
  refine qX7_lap_b S hC (fun q hq => adA_ge hgb hq) hS hdb hG hVO h1 h2 tw_317 ro_1 hl.1 (Nat.le_of_ble_eq_true rfl) dL_law_308 (fun u1 H1 locs1 hu1 hC hS hzz hkp => ?_)
  have hM := PI_kp hM (mW_ad fun i h1 j h2 e => hab i j h1 h2 e) hkp
  refine lv_aload_n S.1 S.2.1 dL_law_311 rfl (lv_at hl 2 rfl) ?_
  refine la_arg (k := 1) (z := 1) S hX hbl hbA hS hl (by omega) hLL e1 (by decide) dL_law_312 dL_law_313 dL_law_314 dL_law_315 dL_law_316 ?_
  refine qX8_lap_b S hM (fun q hq => adA_ge hga hq) hS hda hG h1 h2 tw_689 ro_1 hl.1 (Nat.le_of_ble_eq_true rfl) dL_law_317 (fun u2 H2 locs2 hu2 hM hS hzz hkp => ?_)
  have hC := PI_kp hC (cW_ad fun j h1 i h2 e => hab i j h2 h1 e.symm) hkp
  refine lv_icmp_eq (tgt := 717) S.1 S.2.1 dL_law_320 (by decide) (fun _ => ?_) (fun h => absurd rfl h)
  exact next _ _ ⟨_, _, _, _, _, _, _, _, _, sc, u1, (GOK_l hG h1 h2), hsc, hu1, hM, hC, hS⟩
theorem lo_ends_a {od sd z : Int32} (e1 : xs (i + 1) = od) (e2 : xs (i + 2) = sd) (e3 : xs (i + 3) = z) (hv : (wiI od (nI 0) (nI 1) && wiI sd (nI 0) (nI 1) && wiI z (nI 0) (nI 126) && !decide (z - z / nI 2 * nI 2 = nI 1)) = false) (C : LC p s m c b0 L xs a b) (hi : i + 4 ≤ L) (hLL : L ≤ 2048) (hl : lv_has ls 4 (lvL b0 (b 0) (a 0) i)) (V : LV D K a b s H locs w n lap op mu ba la en pr sc u) (next : ∀ (H : Heap) (locs : List Loc), LVx D K a b s H locs → W p l e room_1 s m #[Value.ref b0] below meth c H locs 600000 7302250 Q (F0 m 717 ls [])) : W p l e room_1 s m #[Value.ref b0] below meth c H locs 600000 7302250 Q (F0 m 325 ls []) := by
  obtain ⟨S, hX, hbl, hda, hdb, hab, hga, hgb⟩ := C
  obtain ⟨hG, hsc, hVO, hM, hC, hS⟩ := V
  have hbA : ¬ (fun q : Nat => s.heap.size ≤ q) b0 := Nat.not_le.mpr hbl
  refine lv_aload_n S.1 S.2.1 dL_law_325 rfl (lv_at hl 1 rfl) ?_
  refine la_arg (k := 1) (z := 1) S hX hbl hbA hS hl (by omega) hLL e1 (by decide) dL_law_326 dL_law_327 dL_law_328 dL_law_329 dL_law_330 ?_
  refine la_arg (k := 2) (z := 2) S hX hbl hbA hS hl (by omega) hLL e2 (by decide) dL_law_331 dL_law_332 dL_law_333 dL_law_334 dL_law_335 ?_
  refine la_arg (k := 3) (z := 3) S hX hbl hbA hS hl (by omega) hLL e3 (by decide) dL_law_336 dL_law_337 dL_law_338 dL_law_339 dL_law_340 ?_
  refine kX7_ends_a S hC hG hv tw_321 ro_1 hl.1 (Nat.le_of_ble_eq_true rfl) dL_law_341 ?_
  refine lv_aload_n S.1 S.2.1 dL_law_344 rfl (lv_at hl 2 rfl) ?_
  refine la_arg (k := 1) (z := 1) S hX hbl hbA hS hl (by omega) hLL e1 (by decide) dL_law_345 dL_law_346 dL_law_347 dL_law_348 dL_law_349 ?_
  refine la_arg (k := 2) (z := 2) S hX hbl hbA hS hl (by omega) hLL e2 (by decide) dL_law_350 dL_law_351 dL_law_352 dL_law_353 dL_law_354 ?_
  refine la_arg (k := 3) (z := 3) S hX hbl hbA hS hl (by omega) hLL e3 (by decide) dL_law_355 dL_law_356 dL_law_357 dL_law_358 dL_law_359 ?_
  refine kX8_ends_a S hM hG hv tw_693 ro_1 hl.1 (Nat.le_of_ble_eq_true rfl) dL_law_360 ?_
  refine lv_icmp_eq (tgt := 717) S.1 S.2.1 dL_law_363 (by decide) (fun _ => ?_) (fun h => absurd rfl h)
  exact next _ _ ⟨_, _, _, _, _, _, _, _, _, sc, u, hG, hsc, hVO, hM, hC, hS⟩
theorem lo_ends_b {od sd k : Nat} (e1 : xs (i + 1) = nI od) (e2 : xs (i + 2) = nI sd) (e3 : xs (i + 3) = nI k) (h1 : od ≤ 1) (h2 : sd ≤ 1) (h3 : k ≤ 126) (h4 : k % 2 = 0) (C : LC p s m c b0 L xs a b) (hi : i + 4 ≤ L) (hLL : L ≤ 2048) (hl : lv_has ls 4 (lvL b0 (b 0) (a 0) i)) (V : LV D K a b s H locs w n lap op mu ba la en pr sc u) (next : ∀ (H : Heap) (locs : List Loc), LVx D K a b s H locs → W p l e room_1 s m #[Value.ref b0] below meth c H locs 600000 7302250 Q (F0 m 717 ls [])) : W p l e room_1 s m #[Value.ref b0] below meth c H locs 600000 7302250 Q (F0 m 325 ls []) := by
  obtain ⟨S, hX, hbl, hda, hdb, hab, hga, hgb⟩ := C
  obtain ⟨hG, hsc, hVO, hM, hC, hS⟩ := V
  have hbA : ¬ (fun q : Nat => s.heap.size ≤ q) b0 := Nat.not_le.mpr hbl
  refine lv_aload_n S.1 S.2.1 dL_law_325 rfl (lv_at hl 1 rfl) ?_
  refine la_arg (k := 1) (z := 1) S hX hbl hbA hS hl (by omega) hLL e1 (by decide) dL_law_326 dL_law_327 dL_law_328 dL_law_329 dL_law_330 ?_
  refine la_arg (k := 2) (z := 2) S hX hbl hbA hS hl (by omega) hLL e2 (by decide) dL_law_331 dL_law_332 dL_law_333 dL_law_334 dL_law_335 ?_
  refine la_arg (k := 3) (z := 3) S hX hbl hbA hS hl (by omega) hLL e3 (by decide) dL_law_336 dL_law_337 dL_law_338 dL_law_339 dL_law_340 ?_
  refine qX7_ends_b S hC (fun q hq => adA_ge hgb hq) hS hdb hG hVO h1 h2 h3 h4 tw_321 ro_1 hl.1 (Nat.le_of_ble_eq_true rfl) dL_law_341 (fun u1 H1 locs1 hu1 hC hS hzz hkp => ?_)
  have hM := PI_kp hM (mW_ad fun i h1 j h2 e => hab i j h1 h2 e) hkp
  refine lv_aload_n S.1 S.2.1 dL_law_344 rfl (lv_at hl 2 rfl) ?_
  refine la_arg (k := 1) (z := 1) S hX hbl hbA hS hl (by omega) hLL e1 (by decide) dL_law_345 dL_law_346 dL_law_347 dL_law_348 dL_law_349 ?_
  refine la_arg (k := 2) (z := 2) S hX hbl hbA hS hl (by omega) hLL e2 (by decide) dL_law_350 dL_law_351 dL_law_352 dL_law_353 dL_law_354 ?_
  refine la_arg (k := 3) (z := 3) S hX hbl hbA hS hl (by omega) hLL e3 (by decide) dL_law_355 dL_law_356 dL_law_357 dL_law_358 dL_law_359 ?_
  refine qX8_ends_b S hM (fun q hq => adA_ge hga hq) hS hda hG h1 h2 h3 h4 tw_693 ro_1 hl.1 (Nat.le_of_ble_eq_true rfl) dL_law_360 (fun u2 H2 locs2 hu2 hM hS hzz hkp => ?_)
  have hC := PI_kp hC (cW_ad fun j h1 i h2 e => hab i j h2 h1 e.symm) hkp
  refine lv_icmp_eq (tgt := 717) S.1 S.2.1 dL_law_363 (by decide) (fun _ => ?_) (fun h => absurd rfl h)
  exact next _ _ ⟨_, _, _, _, _, _, _, _, _, sc, u1, (GOK_e hG h3 h4), hsc, hu1, hM, hC, hS⟩
theorem lo_ofCourse_a {v wh : Int32} (e1 : xs (i + 1) = v) (e2 : xs (i + 2) = wh) (hv : wiI v 0 (nI n - 1) = false) (C : LC p s m c b0 L xs a b) (hi : i + 4 ≤ L) (hLL : L ≤ 2048) (hl : lv_has ls 4 (lvL b0 (b 0) (a 0) i)) (V : LV D K a b s H locs w n lap op mu ba la en pr sc u) (next : ∀ (H : Heap) (locs : List Loc), LVx D K a b s H locs → W p l e room_1 s m #[Value.ref b0] below meth c H locs 600000 7302250 Q (F0 m 717 ls [])) : W p l e room_1 s m #[Value.ref b0] below meth c H locs 600000 7302250 Q (F0 m 368 ls []) := by
  obtain ⟨S, hX, hbl, hda, hdb, hab, hga, hgb⟩ := C
  obtain ⟨hG, hsc, hVO, hM, hC, hS⟩ := V
  have hbA : ¬ (fun q : Nat => s.heap.size ≤ q) b0 := Nat.not_le.mpr hbl
  refine lv_aload_n S.1 S.2.1 dL_law_368 rfl (lv_at hl 1 rfl) ?_
  refine la_arg (k := 1) (z := 1) S hX hbl hbA hS hl (by omega) hLL e1 (by decide) dL_law_369 dL_law_370 dL_law_371 dL_law_372 dL_law_373 ?_
  refine la_arg (k := 2) (z := 2) S hX hbl hbA hS hl (by omega) hLL e2 (by decide) dL_law_374 dL_law_375 dL_law_376 dL_law_377 dL_law_378 ?_
  refine kX7_ofCourse_a S hC hG hv tw_325 ro_1 hl.1 (Nat.le_of_ble_eq_true rfl) dL_law_379 ?_
  refine lv_aload_n S.1 S.2.1 dL_law_382 rfl (lv_at hl 2 rfl) ?_
  refine la_arg (k := 1) (z := 1) S hX hbl hbA hS hl (by omega) hLL e1 (by decide) dL_law_383 dL_law_384 dL_law_385 dL_law_386 dL_law_387 ?_
  refine la_arg (k := 2) (z := 2) S hX hbl hbA hS hl (by omega) hLL e2 (by decide) dL_law_388 dL_law_389 dL_law_390 dL_law_391 dL_law_392 ?_
  refine kX8_ofCourse_a S hM hG hv tw_697 ro_1 hl.1 (Nat.le_of_ble_eq_true rfl) dL_law_393 ?_
  refine lv_icmp_eq (tgt := 717) S.1 S.2.1 dL_law_396 (by decide) (fun _ => ?_) (fun h => absurd rfl h)
  exact next _ _ ⟨_, _, _, _, _, _, _, _, _, sc, u, hG, hsc, hVO, hM, hC, hS⟩
theorem lo_ofCourse_b {ci : Nat} {wh : Int32} (e1 : xs (i + 1) = nI ci) (e2 : xs (i + 2) = wh) (hc : ci < n) (hw : wh.toInt < 0 ∨ 4 < wh.toInt) (C : LC p s m c b0 L xs a b) (hi : i + 4 ≤ L) (hLL : L ≤ 2048) (hl : lv_has ls 4 (lvL b0 (b 0) (a 0) i)) (V : LV D K a b s H locs w n lap op mu ba la en pr sc u) (next : ∀ (H : Heap) (locs : List Loc), LVx D K a b s H locs → W p l e room_1 s m #[Value.ref b0] below meth c H locs 600000 7302250 Q (F0 m 717 ls [])) : W p l e room_1 s m #[Value.ref b0] below meth c H locs 600000 7302250 Q (F0 m 368 ls []) := by
  obtain ⟨S, hX, hbl, hda, hdb, hab, hga, hgb⟩ := C
  obtain ⟨hG, hsc, hVO, hM, hC, hS⟩ := V
  have hbA : ¬ (fun q : Nat => s.heap.size ≤ q) b0 := Nat.not_le.mpr hbl
  refine lv_aload_n S.1 S.2.1 dL_law_368 rfl (lv_at hl 1 rfl) ?_
  refine la_arg (k := 1) (z := 1) S hX hbl hbA hS hl (by omega) hLL e1 (by decide) dL_law_369 dL_law_370 dL_law_371 dL_law_372 dL_law_373 ?_
  refine la_arg (k := 2) (z := 2) S hX hbl hbA hS hl (by omega) hLL e2 (by decide) dL_law_374 dL_law_375 dL_law_376 dL_law_377 dL_law_378 ?_
  refine kX7_ofCourse_b S hC hG hc hw tw_325 ro_1 hl.1 (Nat.le_of_ble_eq_true rfl) dL_law_379 ?_
  refine lv_aload_n S.1 S.2.1 dL_law_382 rfl (lv_at hl 2 rfl) ?_
  refine la_arg (k := 1) (z := 1) S hX hbl hbA hS hl (by omega) hLL e1 (by decide) dL_law_383 dL_law_384 dL_law_385 dL_law_386 dL_law_387 ?_
  refine la_arg (k := 2) (z := 2) S hX hbl hbA hS hl (by omega) hLL e2 (by decide) dL_law_388 dL_law_389 dL_law_390 dL_law_391 dL_law_392 ?_
  refine kX8_ofCourse_b S hM hG hc hw tw_697 ro_1 hl.1 (Nat.le_of_ble_eq_true rfl) dL_law_393 ?_
  refine lv_icmp_eq (tgt := 717) S.1 S.2.1 dL_law_396 (by decide) (fun _ => ?_) (fun h => absurd rfl h)
  exact next _ _ ⟨_, _, _, _, _, _, _, _, _, sc, u, hG, hsc, hVO, hM, hC, hS⟩
theorem lo_ofCourse_0 {ci : Nat} (e1 : xs (i + 1) = nI ci) (e2 : xs (i + 2) = nI 0) (hc : ci < n) (C : LC p s m c b0 L xs a b) (hi : i + 4 ≤ L) (hLL : L ≤ 2048) (hl : lv_has ls 4 (lvL b0 (b 0) (a 0) i)) (V : LV D K a b s H locs w n lap op mu ba la en pr sc u) (next : ∀ (H : Heap) (locs : List Loc), LVx D K a b s H locs → W p l e room_1 s m #[Value.ref b0] below meth c H locs 600000 7302250 Q (F0 m 717 ls [])) : W p l e room_1 s m #[Value.ref b0] below meth c H locs 600000 7302250 Q (F0 m 368 ls []) := by
  obtain ⟨S, hX, hbl, hda, hdb, hab, hga, hgb⟩ := C
  obtain ⟨hG, hsc, hVO, hM, hC, hS⟩ := V
  have hbA : ¬ (fun q : Nat => s.heap.size ≤ q) b0 := Nat.not_le.mpr hbl
  refine lv_aload_n S.1 S.2.1 dL_law_368 rfl (lv_at hl 1 rfl) ?_
  refine la_arg (k := 1) (z := 1) S hX hbl hbA hS hl (by omega) hLL e1 (by decide) dL_law_369 dL_law_370 dL_law_371 dL_law_372 dL_law_373 ?_
  refine la_arg (k := 2) (z := 2) S hX hbl hbA hS hl (by omega) hLL e2 (by decide) dL_law_374 dL_law_375 dL_law_376 dL_law_377 dL_law_378 ?_
  refine kX7_ofCourse_0 S hC hG hc tw_325 ro_1 hl.1 (Nat.le_of_ble_eq_true rfl) dL_law_379 ?_
  refine lv_aload_n S.1 S.2.1 dL_law_382 rfl (lv_at hl 2 rfl) ?_
  refine la_arg (k := 1) (z := 1) S hX hbl hbA hS hl (by omega) hLL e1 (by decide) dL_law_383 dL_law_384 dL_law_385 dL_law_386 dL_law_387 ?_
  refine la_arg (k := 2) (z := 2) S hX hbl hbA hS hl (by omega) hLL e2 (by decide) dL_law_388 dL_law_389 dL_law_390 dL_law_391 dL_law_392 ?_
  refine kX8_ofCourse_0 S hM hG hc tw_697 ro_1 hl.1 (Nat.le_of_ble_eq_true rfl) dL_law_393 ?_
  refine lv_icmp_eq (tgt := 717) S.1 S.2.1 dL_law_396 (by decide) (fun _ => ?_) (fun h => absurd rfl h)
  exact next _ _ ⟨_, _, _, _, _, _, _, _, _, sc, u, hG, hsc, hVO, hM, hC, hS⟩
theorem lo_ofCourse_1 {ci : Nat} (e1 : xs (i + 1) = nI ci) (e2 : xs (i + 2) = nI 1) (hc : ci < n) (C : LC p s m c b0 L xs a b) (hi : i + 4 ≤ L) (hLL : L ≤ 2048) (hl : lv_has ls 4 (lvL b0 (b 0) (a 0) i)) (V : LV D K a b s H locs w n lap op mu ba la en pr sc u) (next : ∀ (H : Heap) (locs : List Loc), LVx D K a b s H locs → W p l e room_1 s m #[Value.ref b0] below meth c H locs 600000 7302250 Q (F0 m 717 ls [])) : W p l e room_1 s m #[Value.ref b0] below meth c H locs 600000 7302250 Q (F0 m 368 ls []) := by
  obtain ⟨S, hX, hbl, hda, hdb, hab, hga, hgb⟩ := C
  obtain ⟨hG, hsc, hVO, hM, hC, hS⟩ := V
  have hbA : ¬ (fun q : Nat => s.heap.size ≤ q) b0 := Nat.not_le.mpr hbl
  refine lv_aload_n S.1 S.2.1 dL_law_368 rfl (lv_at hl 1 rfl) ?_
  refine la_arg (k := 1) (z := 1) S hX hbl hbA hS hl (by omega) hLL e1 (by decide) dL_law_369 dL_law_370 dL_law_371 dL_law_372 dL_law_373 ?_
  refine la_arg (k := 2) (z := 2) S hX hbl hbA hS hl (by omega) hLL e2 (by decide) dL_law_374 dL_law_375 dL_law_376 dL_law_377 dL_law_378 ?_
  refine kX7_ofCourse_1 S hC hG hc tw_325 ro_1 hl.1 (Nat.le_of_ble_eq_true rfl) dL_law_379 ?_
  refine lv_aload_n S.1 S.2.1 dL_law_382 rfl (lv_at hl 2 rfl) ?_
  refine la_arg (k := 1) (z := 1) S hX hbl hbA hS hl (by omega) hLL e1 (by decide) dL_law_383 dL_law_384 dL_law_385 dL_law_386 dL_law_387 ?_
  refine la_arg (k := 2) (z := 2) S hX hbl hbA hS hl (by omega) hLL e2 (by decide) dL_law_388 dL_law_389 dL_law_390 dL_law_391 dL_law_392 ?_
  refine kX8_ofCourse_1 S hM hG hc tw_697 ro_1 hl.1 (Nat.le_of_ble_eq_true rfl) dL_law_393 ?_
  refine lv_icmp_eq (tgt := 717) S.1 S.2.1 dL_law_396 (by decide) (fun _ => ?_) (fun h => absurd rfl h)
  exact next _ _ ⟨_, _, _, _, _, _, _, _, _, sc, u, hG, hsc, hVO, hM, hC, hS⟩
theorem lo_ofCourse_2 {ci : Nat} (e1 : xs (i + 1) = nI ci) (e2 : xs (i + 2) = nI 2) (hc : ci < n) (C : LC p s m c b0 L xs a b) (hi : i + 4 ≤ L) (hLL : L ≤ 2048) (hl : lv_has ls 4 (lvL b0 (b 0) (a 0) i)) (V : LV D K a b s H locs w n lap op mu ba la en pr sc u) (next : ∀ (H : Heap) (locs : List Loc), LVx D K a b s H locs → W p l e room_1 s m #[Value.ref b0] below meth c H locs 600000 7302250 Q (F0 m 717 ls [])) : W p l e room_1 s m #[Value.ref b0] below meth c H locs 600000 7302250 Q (F0 m 368 ls []) := by
  obtain ⟨S, hX, hbl, hda, hdb, hab, hga, hgb⟩ := C
  obtain ⟨hG, hsc, hVO, hM, hC, hS⟩ := V
  have hbA : ¬ (fun q : Nat => s.heap.size ≤ q) b0 := Nat.not_le.mpr hbl
  refine lv_aload_n S.1 S.2.1 dL_law_368 rfl (lv_at hl 1 rfl) ?_
  refine la_arg (k := 1) (z := 1) S hX hbl hbA hS hl (by omega) hLL e1 (by decide) dL_law_369 dL_law_370 dL_law_371 dL_law_372 dL_law_373 ?_
  refine la_arg (k := 2) (z := 2) S hX hbl hbA hS hl (by omega) hLL e2 (by decide) dL_law_374 dL_law_375 dL_law_376 dL_law_377 dL_law_378 ?_
  refine kX7_ofCourse_2 S hC hG hc tw_325 ro_1 hl.1 (Nat.le_of_ble_eq_true rfl) dL_law_379 ?_
  refine lv_aload_n S.1 S.2.1 dL_law_382 rfl (lv_at hl 2 rfl) ?_
  refine la_arg (k := 1) (z := 1) S hX hbl hbA hS hl (by omega) hLL e1 (by decide) dL_law_383 dL_law_384 dL_law_385 dL_law_386 dL_law_387 ?_
  refine la_arg (k := 2) (z := 2) S hX hbl hbA hS hl (by omega) hLL e2 (by decide) dL_law_388 dL_law_389 dL_law_390 dL_law_391 dL_law_392 ?_
  refine kX8_ofCourse_2 S hM hG hc tw_697 ro_1 hl.1 (Nat.le_of_ble_eq_true rfl) dL_law_393 ?_
  refine lv_icmp_eq (tgt := 717) S.1 S.2.1 dL_law_396 (by decide) (fun _ => ?_) (fun h => absurd rfl h)
  exact next _ _ ⟨_, _, _, _, _, _, _, _, _, sc, u, hG, hsc, hVO, hM, hC, hS⟩
theorem lo_ofCourse_3 {ci : Nat} (e1 : xs (i + 1) = nI ci) (e2 : xs (i + 2) = nI 3) (hc : ci < n) (C : LC p s m c b0 L xs a b) (hi : i + 4 ≤ L) (hLL : L ≤ 2048) (hl : lv_has ls 4 (lvL b0 (b 0) (a 0) i)) (V : LV D K a b s H locs w n lap op mu ba la en pr sc u) (next : ∀ (H : Heap) (locs : List Loc), LVx D K a b s H locs → W p l e room_1 s m #[Value.ref b0] below meth c H locs 600000 7302250 Q (F0 m 717 ls [])) : W p l e room_1 s m #[Value.ref b0] below meth c H locs 600000 7302250 Q (F0 m 368 ls []) := by
  obtain ⟨S, hX, hbl, hda, hdb, hab, hga, hgb⟩ := C
  obtain ⟨hG, hsc, hVO, hM, hC, hS⟩ := V
  have hbA : ¬ (fun q : Nat => s.heap.size ≤ q) b0 := Nat.not_le.mpr hbl
  refine lv_aload_n S.1 S.2.1 dL_law_368 rfl (lv_at hl 1 rfl) ?_
  refine la_arg (k := 1) (z := 1) S hX hbl hbA hS hl (by omega) hLL e1 (by decide) dL_law_369 dL_law_370 dL_law_371 dL_law_372 dL_law_373 ?_
  refine la_arg (k := 2) (z := 2) S hX hbl hbA hS hl (by omega) hLL e2 (by decide) dL_law_374 dL_law_375 dL_law_376 dL_law_377 dL_law_378 ?_
  refine qX7_ofCourse_3 S hC (fun q hq => adA_ge hgb hq) hS hdb hG hVO hc tw_325 ro_1 hl.1 (Nat.le_of_ble_eq_true rfl) dL_law_379 (fun u1 H1 locs1 hu1 hC hS hzz hkp => ?_)
  have hM := PI_kp hM (mW_ad fun i h1 j h2 e => hab i j h1 h2 e) hkp
  refine lv_aload_n S.1 S.2.1 dL_law_382 rfl (lv_at hl 2 rfl) ?_
  refine la_arg (k := 1) (z := 1) S hX hbl hbA hS hl (by omega) hLL e1 (by decide) dL_law_383 dL_law_384 dL_law_385 dL_law_386 dL_law_387 ?_
  refine la_arg (k := 2) (z := 2) S hX hbl hbA hS hl (by omega) hLL e2 (by decide) dL_law_388 dL_law_389 dL_law_390 dL_law_391 dL_law_392 ?_
  refine kX8_ofCourse_3 S hM hG hc tw_697 ro_1 hl.1 (Nat.le_of_ble_eq_true rfl) dL_law_393 ?_
  refine lv_icmp_eq (tgt := 717) S.1 S.2.1 dL_law_396 (by decide) (fun _ => ?_) (fun h => absurd rfl h)
  exact next _ _ ⟨_, _, _, _, _, _, _, _, _, sc, u1, hG, hsc, hu1, hM, hC, hS⟩
theorem lo_ofCourse_4 {ci : Nat} (e1 : xs (i + 1) = nI ci) (e2 : xs (i + 2) = nI 4) (hc : ci < n) (C : LC p s m c b0 L xs a b) (hi : i + 4 ≤ L) (hLL : L ≤ 2048) (hl : lv_has ls 4 (lvL b0 (b 0) (a 0) i)) (V : LV D K a b s H locs w n lap op mu ba la en pr sc u) (next : ∀ (H : Heap) (locs : List Loc), LVx D K a b s H locs → W p l e room_1 s m #[Value.ref b0] below meth c H locs 600000 7302250 Q (F0 m 717 ls [])) : W p l e room_1 s m #[Value.ref b0] below meth c H locs 600000 7302250 Q (F0 m 368 ls []) := by
  obtain ⟨S, hX, hbl, hda, hdb, hab, hga, hgb⟩ := C
  obtain ⟨hG, hsc, hVO, hM, hC, hS⟩ := V
  have hbA : ¬ (fun q : Nat => s.heap.size ≤ q) b0 := Nat.not_le.mpr hbl
  refine lv_aload_n S.1 S.2.1 dL_law_368 rfl (lv_at hl 1 rfl) ?_
  refine la_arg (k := 1) (z := 1) S hX hbl hbA hS hl (by omega) hLL e1 (by decide) dL_law_369 dL_law_370 dL_law_371 dL_law_372 dL_law_373 ?_
  refine la_arg (k := 2) (z := 2) S hX hbl hbA hS hl (by omega) hLL e2 (by decide) dL_law_374 dL_law_375 dL_law_376 dL_law_377 dL_law_378 ?_
  refine kX7_ofCourse_4 S hC hG hc tw_325 ro_1 hl.1 (Nat.le_of_ble_eq_true rfl) dL_law_379 ?_
  refine lv_aload_n S.1 S.2.1 dL_law_382 rfl (lv_at hl 2 rfl) ?_
  refine la_arg (k := 1) (z := 1) S hX hbl hbA hS hl (by omega) hLL e1 (by decide) dL_law_383 dL_law_384 dL_law_385 dL_law_386 dL_law_387 ?_
  refine la_arg (k := 2) (z := 2) S hX hbl hbA hS hl (by omega) hLL e2 (by decide) dL_law_388 dL_law_389 dL_law_390 dL_law_391 dL_law_392 ?_
  refine kX8_ofCourse_4 S hM hG hc tw_697 ro_1 hl.1 (Nat.le_of_ble_eq_true rfl) dL_law_393 ?_
  refine lv_icmp_eq (tgt := 717) S.1 S.2.1 dL_law_396 (by decide) (fun _ => ?_) (fun h => absurd rfl h)
  exact next _ _ ⟨_, _, _, _, _, _, _, _, _, sc, u, hG, hsc, hVO, hM, hC, hS⟩
theorem lo_row_a {v z : Int32} (e1 : xs (i + 1) = v) (e2 : xs (i + 2) = z) (hv : wiI v 0 (nI n - 1) = false) (C : LC p s m c b0 L xs a b) (hi : i + 4 ≤ L) (hLL : L ≤ 2048) (hl : lv_has ls 4 (lvL b0 (b 0) (a 0) i)) (V : LV D K a b s H locs w n lap op mu ba la en pr sc u) (next : ∀ (H : Heap) (locs : List Loc), LVx D K a b s H locs → W p l e room_1 s m #[Value.ref b0] below meth c H locs 600000 7302250 Q (F0 m 717 ls [])) : W p l e room_1 s m #[Value.ref b0] below meth c H locs 600000 7302250 Q (F0 m 401 ls []) := by
  obtain ⟨S, hX, hbl, hda, hdb, hab, hga, hgb⟩ := C
  obtain ⟨hG, hsc, hVO, hM, hC, hS⟩ := V
  have hbA : ¬ (fun q : Nat => s.heap.size ≤ q) b0 := Nat.not_le.mpr hbl
  refine lv_aload_n S.1 S.2.1 dL_law_401 rfl (lv_at hl 1 rfl) ?_
  refine la_arg (k := 1) (z := 1) S hX hbl hbA hS hl (by omega) hLL e1 (by decide) dL_law_402 dL_law_403 dL_law_404 dL_law_405 dL_law_406 ?_
  refine la_arg (k := 2) (z := 2) S hX hbl hbA hS hl (by omega) hLL e2 (by decide) dL_law_407 dL_law_408 dL_law_409 dL_law_410 dL_law_411 ?_
  refine kX7_row_a S hC hG hv tw_364 ro_1 hl.1 (Nat.le_of_ble_eq_true rfl) dL_law_412 ?_
  refine lv_aload_n S.1 S.2.1 dL_law_415 rfl (lv_at hl 2 rfl) ?_
  refine la_arg (k := 1) (z := 1) S hX hbl hbA hS hl (by omega) hLL e1 (by decide) dL_law_416 dL_law_417 dL_law_418 dL_law_419 dL_law_420 ?_
  refine la_arg (k := 2) (z := 2) S hX hbl hbA hS hl (by omega) hLL e2 (by decide) dL_law_421 dL_law_422 dL_law_423 dL_law_424 dL_law_425 ?_
  refine kX8_row_a S hM hG hv tw_708 ro_1 hl.1 (Nat.le_of_ble_eq_true rfl) dL_law_426 ?_
  refine lv_icmp_eq (tgt := 717) S.1 S.2.1 dL_law_429 (by decide) (fun _ => ?_) (fun h => absurd rfl h)
  exact next _ _ ⟨_, _, _, _, _, _, _, _, _, sc, u, hG, hsc, hVO, hM, hC, hS⟩
theorem lo_row_b {ci : Nat} {z : Int32} (e1 : xs (i + 1) = nI ci) (e2 : xs (i + 2) = z) (hc : ci < n) (hz : wiI z (-1) (nI 511) = false) (C : LC p s m c b0 L xs a b) (hi : i + 4 ≤ L) (hLL : L ≤ 2048) (hl : lv_has ls 4 (lvL b0 (b 0) (a 0) i)) (V : LV D K a b s H locs w n lap op mu ba la en pr sc u) (next : ∀ (H : Heap) (locs : List Loc), LVx D K a b s H locs → W p l e room_1 s m #[Value.ref b0] below meth c H locs 600000 7302250 Q (F0 m 717 ls [])) : W p l e room_1 s m #[Value.ref b0] below meth c H locs 600000 7302250 Q (F0 m 401 ls []) := by
  obtain ⟨S, hX, hbl, hda, hdb, hab, hga, hgb⟩ := C
  obtain ⟨hG, hsc, hVO, hM, hC, hS⟩ := V
  have hbA : ¬ (fun q : Nat => s.heap.size ≤ q) b0 := Nat.not_le.mpr hbl
  refine lv_aload_n S.1 S.2.1 dL_law_401 rfl (lv_at hl 1 rfl) ?_
  refine la_arg (k := 1) (z := 1) S hX hbl hbA hS hl (by omega) hLL e1 (by decide) dL_law_402 dL_law_403 dL_law_404 dL_law_405 dL_law_406 ?_
  refine la_arg (k := 2) (z := 2) S hX hbl hbA hS hl (by omega) hLL e2 (by decide) dL_law_407 dL_law_408 dL_law_409 dL_law_410 dL_law_411 ?_
  refine kX7_row_b S hC hG hc hz tw_364 ro_1 hl.1 (Nat.le_of_ble_eq_true rfl) dL_law_412 ?_
  refine lv_aload_n S.1 S.2.1 dL_law_415 rfl (lv_at hl 2 rfl) ?_
  refine la_arg (k := 1) (z := 1) S hX hbl hbA hS hl (by omega) hLL e1 (by decide) dL_law_416 dL_law_417 dL_law_418 dL_law_419 dL_law_420 ?_
  refine la_arg (k := 2) (z := 2) S hX hbl hbA hS hl (by omega) hLL e2 (by decide) dL_law_421 dL_law_422 dL_law_423 dL_law_424 dL_law_425 ?_
  refine kX8_row_b S hM hG hc hz tw_708 ro_1 hl.1 (Nat.le_of_ble_eq_true rfl) dL_law_426 ?_
  refine lv_icmp_eq (tgt := 717) S.1 S.2.1 dL_law_429 (by decide) (fun _ => ?_) (fun h => absurd rfl h)
  exact next _ _ ⟨_, _, _, _, _, _, _, _, _, sc, u, hG, hsc, hVO, hM, hC, hS⟩
theorem lo_row_c {ci : Nat} (e1 : xs (i + 1) = nI ci) (e2 : xs (i + 2) = (-1)) (hc : ci < n) (C : LC p s m c b0 L xs a b) (hi : i + 4 ≤ L) (hLL : L ≤ 2048) (hl : lv_has ls 4 (lvL b0 (b 0) (a 0) i)) (V : LV D K a b s H locs w n lap op mu ba la en pr sc u) (next : ∀ (H : Heap) (locs : List Loc), LVx D K a b s H locs → W p l e room_1 s m #[Value.ref b0] below meth c H locs 600000 7302250 Q (F0 m 717 ls [])) : W p l e room_1 s m #[Value.ref b0] below meth c H locs 600000 7302250 Q (F0 m 401 ls []) := by
  obtain ⟨S, hX, hbl, hda, hdb, hab, hga, hgb⟩ := C
  obtain ⟨hG, hsc, hVO, hM, hC, hS⟩ := V
  have hbA : ¬ (fun q : Nat => s.heap.size ≤ q) b0 := Nat.not_le.mpr hbl
  refine lv_aload_n S.1 S.2.1 dL_law_401 rfl (lv_at hl 1 rfl) ?_
  refine la_arg (k := 1) (z := 1) S hX hbl hbA hS hl (by omega) hLL e1 (by decide) dL_law_402 dL_law_403 dL_law_404 dL_law_405 dL_law_406 ?_
  refine la_arg (k := 2) (z := 2) S hX hbl hbA hS hl (by omega) hLL e2 (by decide) dL_law_407 dL_law_408 dL_law_409 dL_law_410 dL_law_411 ?_
  refine qX7_row_c S hC (fun q hq => adA_ge hgb hq) hS hdb hG hVO hc tw_364 ro_1 hl.1 (Nat.le_of_ble_eq_true rfl) dL_law_412 (fun u1 H1 locs1 hu1 hC hS hzz hkp => ?_)
  have hM := PI_kp hM (mW_ad fun i h1 j h2 e => hab i j h1 h2 e) hkp
  refine lv_aload_n S.1 S.2.1 dL_law_415 rfl (lv_at hl 2 rfl) ?_
  refine la_arg (k := 1) (z := 1) S hX hbl hbA hS hl (by omega) hLL e1 (by decide) dL_law_416 dL_law_417 dL_law_418 dL_law_419 dL_law_420 ?_
  refine la_arg (k := 2) (z := 2) S hX hbl hbA hS hl (by omega) hLL e2 (by decide) dL_law_421 dL_law_422 dL_law_423 dL_law_424 dL_law_425 ?_
  refine qX8_row_c S hM (fun q hq => adA_ge hga hq) hS hda hG hc hsc tw_708 ro_1 hl.1 (Nat.le_of_ble_eq_true rfl) dL_law_426 (fun u2 H2 locs2 hu2 hM hS hzz hkp => ?_)
  have hC := PI_kp hC (cW_ad fun j h1 i h2 e => hab i j h2 h1 e.symm) hkp
  refine lv_icmp_eq (tgt := 717) S.1 S.2.1 dL_law_429 (by decide) (fun _ => ?_) (fun h => absurd rfl h)
  exact next _ _ ⟨_, _, _, _, _, _, _, _, _, u2, u1, hG, hu2, hu1, hM, hC, hS⟩
theorem lo_row_d {ci k : Nat} (e1 : xs (i + 1) = nI ci) (e2 : xs (i + 2) = nI k) (hc : ci < n) (hk : k ≤ 511) (C : LC p s m c b0 L xs a b) (hi : i + 4 ≤ L) (hLL : L ≤ 2048) (hl : lv_has ls 4 (lvL b0 (b 0) (a 0) i)) (V : LV D K a b s H locs w n lap op mu ba la en pr sc u) (next : ∀ (H : Heap) (locs : List Loc), LVx D K a b s H locs → W p l e room_1 s m #[Value.ref b0] below meth c H locs 600000 7302250 Q (F0 m 717 ls [])) : W p l e room_1 s m #[Value.ref b0] below meth c H locs 600000 7302250 Q (F0 m 401 ls []) := by
  obtain ⟨S, hX, hbl, hda, hdb, hab, hga, hgb⟩ := C
  obtain ⟨hG, hsc, hVO, hM, hC, hS⟩ := V
  have hbA : ¬ (fun q : Nat => s.heap.size ≤ q) b0 := Nat.not_le.mpr hbl
  refine lv_aload_n S.1 S.2.1 dL_law_401 rfl (lv_at hl 1 rfl) ?_
  refine la_arg (k := 1) (z := 1) S hX hbl hbA hS hl (by omega) hLL e1 (by decide) dL_law_402 dL_law_403 dL_law_404 dL_law_405 dL_law_406 ?_
  refine la_arg (k := 2) (z := 2) S hX hbl hbA hS hl (by omega) hLL e2 (by decide) dL_law_407 dL_law_408 dL_law_409 dL_law_410 dL_law_411 ?_
  refine qX7_row_d S hC (fun q hq => adA_ge hgb hq) hS hdb hG hVO hc hk tw_364 ro_1 hl.1 (Nat.le_of_ble_eq_true rfl) dL_law_412 (fun u1 H1 locs1 hu1 hC hS hzz hkp => ?_)
  have hM := PI_kp hM (mW_ad fun i h1 j h2 e => hab i j h1 h2 e) hkp
  refine lv_aload_n S.1 S.2.1 dL_law_415 rfl (lv_at hl 2 rfl) ?_
  refine la_arg (k := 1) (z := 1) S hX hbl hbA hS hl (by omega) hLL e1 (by decide) dL_law_416 dL_law_417 dL_law_418 dL_law_419 dL_law_420 ?_
  refine la_arg (k := 2) (z := 2) S hX hbl hbA hS hl (by omega) hLL e2 (by decide) dL_law_421 dL_law_422 dL_law_423 dL_law_424 dL_law_425 ?_
  refine qX8_row_d S hM (fun q hq => adA_ge hga hq) hS hda hG hc hk hsc tw_708 ro_1 hl.1 (Nat.le_of_ble_eq_true rfl) dL_law_426 (fun u2 H2 locs2 hu2 hM hS hzz hkp => ?_)
  have hC := PI_kp hC (cW_ad fun j h1 i h2 e => hab i j h2 h1 e.symm) hkp
  refine lv_icmp_eq (tgt := 717) S.1 S.2.1 dL_law_429 (by decide) (fun _ => ?_) (fun h => absurd rfl h)
  exact next _ _ ⟨_, _, _, _, _, _, _, _, _, u2, u1, hG, hu2, hu1, hM, hC, hS⟩
theorem lo_walls  (C : LC p s m c b0 L xs a b) (hi : i + 4 ≤ L) (hLL : L ≤ 2048) (hl : lv_has ls 4 (lvL b0 (b 0) (a 0) i)) (V : LV D K a b s H locs w n lap op mu ba la en pr sc u) (next : ∀ (H : Heap) (locs : List Loc), LVx D K a b s H locs → W p l e room_1 s m #[Value.ref b0] below meth c H locs 600000 7302250 Q (F0 m 717 ls [])) : W p l e room_1 s m #[Value.ref b0] below meth c H locs 600000 7302250 Q (F0 m 434 ls []) := by
  obtain ⟨S, hX, hbl, hda, hdb, hab, hga, hgb⟩ := C
  obtain ⟨hG, hsc, hVO, hM, hC, hS⟩ := V
  have hbA : ¬ (fun q : Nat => s.heap.size ≤ q) b0 := Nat.not_le.mpr hbl
  refine lv_aload_n S.1 S.2.1 dL_law_434 rfl (lv_at hl 1 rfl) ?_
  refine qX7_walls S hC (fun q hq => adA_ge hgb hq) hS hdb hG hVO  tw_429 ro_1 hl.1 (Nat.le_of_ble_eq_true rfl) dL_law_435 (fun u1 H1 locs1 hu1 hC hS hzz hkp => ?_)
  have hM := PI_kp hM (mW_ad fun i h1 j h2 e => hab i j h1 h2 e) hkp
  refine lv_aload_n S.1 S.2.1 dL_law_438 rfl (lv_at hl 2 rfl) ?_
  refine qX8_walls S hM (fun q hq => adA_ge hga hq) hS hda hG hsc tw_752 ro_1 hl.1 (Nat.le_of_ble_eq_true rfl) dL_law_439 (fun u2 H2 locs2 hu2 hM hS hzz hkp => ?_)
  have hC := PI_kp hC (cW_ad fun j h1 i h2 e => hab i j h2 h1 e.symm) hkp
  refine la_lcmp S dL_law_442 ?_
  refine ly_ifeq (tgt := 717) S (fun q => q) (fun q => q) dL_law_443 (by decide) (fun _ => ?_) (fun h => absurd rfl h)
  exact next _ _ ⟨_, _, _, _, _, _, _, _, _, u2, u1, hG, hu2, hu1, hM, hC, hS⟩
theorem lo_best  (C : LC p s m c b0 L xs a b) (hi : i + 4 ≤ L) (hLL : L ≤ 2048) (hl : lv_has ls 4 (lvL b0 (b 0) (a 0) i)) (V : LV D K a b s H locs w n lap op mu ba la en pr sc u) (next : ∀ (H : Heap) (locs : List Loc), LVx D K a b s H locs → W p l e room_1 s m #[Value.ref b0] below meth c H locs 600000 7302250 Q (F0 m 717 ls [])) : W p l e room_1 s m #[Value.ref b0] below meth c H locs 600000 7302250 Q (F0 m 448 ls []) := by
  obtain ⟨S, hX, hbl, hda, hdb, hab, hga, hgb⟩ := C
  obtain ⟨hG, hsc, hVO, hM, hC, hS⟩ := V
  have hbA : ¬ (fun q : Nat => s.heap.size ≤ q) b0 := Nat.not_le.mpr hbl
  refine lv_aload_n S.1 S.2.1 dL_law_448 rfl (lv_at hl 1 rfl) ?_
  refine qX7_best S hC (fun q hq => adA_ge hgb hq) hS hdb hG hVO  tw_462 ro_1 hl.1 (Nat.le_of_ble_eq_true rfl) dL_law_449 (fun u1 H1 locs1 hu1 hC hS hzz hkp => ?_)
  have hM := PI_kp hM (mW_ad fun i h1 j h2 e => hab i j h1 h2 e) hkp
  refine lv_aload_n S.1 S.2.1 dL_law_452 rfl (lv_at hl 2 rfl) ?_
  refine qX8_best S hM (fun q hq => adA_ge hga hq) hS hda hG hsc tw_772 ro_1 hl.1 (Nat.le_of_ble_eq_true rfl) dL_law_453 (fun u2 H2 locs2 hu2 hM hS hzz hkp => ?_)
  have hC := PI_kp hC (cW_ad fun j h1 i h2 e => hab i j h2 h1 e.symm) hkp
  refine lv_icmp_eq (tgt := 717) S.1 S.2.1 dL_law_456 (by decide) (fun _ => ?_) (fun h => absurd rfl h)
  exact next _ _ ⟨_, _, _, _, _, _, _, _, _, u2, u1, hG, hu2, hu1, hM, hC, hS⟩
theorem lo_bestRow_a {v : Int32} (e1 : xs (i + 1) = v) (hv : wiI v 0 (nI n - 1) = false) (C : LC p s m c b0 L xs a b) (hi : i + 4 ≤ L) (hLL : L ≤ 2048) (hl : lv_has ls 4 (lvL b0 (b 0) (a 0) i)) (V : LV D K a b s H locs w n lap op mu ba la en pr sc u) (next : ∀ (H : Heap) (locs : List Loc), LVx D K a b s H locs → W p l e room_1 s m #[Value.ref b0] below meth c H locs 600000 7302250 Q (F0 m 717 ls [])) : W p l e room_1 s m #[Value.ref b0] below meth c H locs 600000 7302250 Q (F0 m 461 ls []) := by
  obtain ⟨S, hX, hbl, hda, hdb, hab, hga, hgb⟩ := C
  obtain ⟨hG, hsc, hVO, hM, hC, hS⟩ := V
  have hbA : ¬ (fun q : Nat => s.heap.size ≤ q) b0 := Nat.not_le.mpr hbl
  refine lv_aload_n S.1 S.2.1 dL_law_461 rfl (lv_at hl 1 rfl) ?_
  refine la_arg (k := 1) (z := 1) S hX hbl hbA hS hl (by omega) hLL e1 (by decide) dL_law_462 dL_law_463 dL_law_464 dL_law_465 dL_law_466 ?_
  refine kX7_bestRow_a S hC hG hv tw_498 ro_1 hl.1 (Nat.le_of_ble_eq_true rfl) dL_law_467 ?_
  refine lv_aload_n S.1 S.2.1 dL_law_470 rfl (lv_at hl 2 rfl) ?_
  refine la_arg (k := 1) (z := 1) S hX hbl hbA hS hl (by omega) hLL e1 (by decide) dL_law_471 dL_law_472 dL_law_473 dL_law_474 dL_law_475 ?_
  refine kX8_bestRow_a S hM hG hv tw_780 ro_1 hl.1 (Nat.le_of_ble_eq_true rfl) dL_law_476 ?_
  refine lv_icmp_eq (tgt := 717) S.1 S.2.1 dL_law_479 (by decide) (fun _ => ?_) (fun h => absurd rfl h)
  exact next _ _ ⟨_, _, _, _, _, _, _, _, _, sc, u, hG, hsc, hVO, hM, hC, hS⟩
theorem lo_bestRow_n {ci : Nat} (e1 : xs (i + 1) = nI ci) (hc : ci < n) (hb : bsS w op mu ba en pr n lap = 1000000000) (C : LC p s m c b0 L xs a b) (hi : i + 4 ≤ L) (hLL : L ≤ 2048) (hl : lv_has ls 4 (lvL b0 (b 0) (a 0) i)) (V : LV D K a b s H locs w n lap op mu ba la en pr sc u) (next : ∀ (H : Heap) (locs : List Loc), LVx D K a b s H locs → W p l e room_1 s m #[Value.ref b0] below meth c H locs 600000 7302250 Q (F0 m 717 ls [])) : W p l e room_1 s m #[Value.ref b0] below meth c H locs 600000 7302250 Q (F0 m 461 ls []) := by
  obtain ⟨S, hX, hbl, hda, hdb, hab, hga, hgb⟩ := C
  obtain ⟨hG, hsc, hVO, hM, hC, hS⟩ := V
  have hbA : ¬ (fun q : Nat => s.heap.size ≤ q) b0 := Nat.not_le.mpr hbl
  refine lv_aload_n S.1 S.2.1 dL_law_461 rfl (lv_at hl 1 rfl) ?_
  refine la_arg (k := 1) (z := 1) S hX hbl hbA hS hl (by omega) hLL e1 (by decide) dL_law_462 dL_law_463 dL_law_464 dL_law_465 dL_law_466 ?_
  refine qX7_bestRow_n S hC (fun q hq => adA_ge hgb hq) hS hdb hG hVO hc hb tw_498 ro_1 hl.1 (Nat.le_of_ble_eq_true rfl) dL_law_467 (fun u1 H1 locs1 hu1 hC hS hzz hkp => ?_)
  have hM := PI_kp hM (mW_ad fun i h1 j h2 e => hab i j h1 h2 e) hkp
  refine lv_aload_n S.1 S.2.1 dL_law_470 rfl (lv_at hl 2 rfl) ?_
  refine la_arg (k := 1) (z := 1) S hX hbl hbA hS hl (by omega) hLL e1 (by decide) dL_law_471 dL_law_472 dL_law_473 dL_law_474 dL_law_475 ?_
  refine qX8_bestRow_n S hM (fun q hq => adA_ge hga hq) hS hda hG hc hb hsc tw_780 ro_1 hl.1 (Nat.le_of_ble_eq_true rfl) dL_law_476 (fun u2 H2 locs2 hu2 hM hS hzz hkp => ?_)
  have hC := PI_kp hC (cW_ad fun j h1 i h2 e => hab i j h2 h1 e.symm) hkp
  refine lv_icmp_eq (tgt := 717) S.1 S.2.1 dL_law_479 (by decide) (fun _ => ?_) (fun h => absurd rfl h)
  exact next _ _ ⟨_, _, _, _, _, _, _, _, _, u2, u1, hG, hu2, hu1, hM, hC, hS⟩
theorem lo_bestRow_y {ci : Nat} (e1 : xs (i + 1) = nI ci) (hc : ci < n) (hb : bsS w op mu ba en pr n lap ≠ 1000000000) (C : LC p s m c b0 L xs a b) (hi : i + 4 ≤ L) (hLL : L ≤ 2048) (hl : lv_has ls 4 (lvL b0 (b 0) (a 0) i)) (V : LV D K a b s H locs w n lap op mu ba la en pr sc u) (next : ∀ (H : Heap) (locs : List Loc), LVx D K a b s H locs → W p l e room_1 s m #[Value.ref b0] below meth c H locs 600000 7302250 Q (F0 m 717 ls [])) : W p l e room_1 s m #[Value.ref b0] below meth c H locs 600000 7302250 Q (F0 m 461 ls []) := by
  obtain ⟨S, hX, hbl, hda, hdb, hab, hga, hgb⟩ := C
  obtain ⟨hG, hsc, hVO, hM, hC, hS⟩ := V
  have hbA : ¬ (fun q : Nat => s.heap.size ≤ q) b0 := Nat.not_le.mpr hbl
  refine lv_aload_n S.1 S.2.1 dL_law_461 rfl (lv_at hl 1 rfl) ?_
  refine la_arg (k := 1) (z := 1) S hX hbl hbA hS hl (by omega) hLL e1 (by decide) dL_law_462 dL_law_463 dL_law_464 dL_law_465 dL_law_466 ?_
  refine qX7_bestRow_y S hC (fun q hq => adA_ge hgb hq) hS hdb hG hVO hc hb tw_498 ro_1 hl.1 (Nat.le_of_ble_eq_true rfl) dL_law_467 (fun u1 H1 locs1 hu1 hC hS hzz hkp => ?_)
  have hM := PI_kp hM (mW_ad fun i h1 j h2 e => hab i j h1 h2 e) hkp
  refine lv_aload_n S.1 S.2.1 dL_law_470 rfl (lv_at hl 2 rfl) ?_
  refine la_arg (k := 1) (z := 1) S hX hbl hbA hS hl (by omega) hLL e1 (by decide) dL_law_471 dL_law_472 dL_law_473 dL_law_474 dL_law_475 ?_
  refine qX8_bestRow_y S hM (fun q hq => adA_ge hga hq) hS hda hG hc hb hsc tw_780 ro_1 hl.1 (Nat.le_of_ble_eq_true rfl) dL_law_476 (fun u2 H2 locs2 hu2 hM hS hzz hkp => ?_)
  have hC := PI_kp hC (cW_ad fun j h1 i h2 e => hab i j h2 h1 e.symm) hkp
  refine lv_icmp_eq (tgt := 717) S.1 S.2.1 dL_law_479 (by decide) (fun _ => ?_) (fun h => absurd rfl h)
  exact next _ _ ⟨_, _, _, _, _, _, _, _, _, u2, u1, hG, hu2, hu1, hM, hC, hS⟩
theorem lo_bestOf_a {v : Int32} (e1 : xs (i + 1) = v) (hv : wiI v (nI 1) (nI 6) = false) (C : LC p s m c b0 L xs a b) (hi : i + 4 ≤ L) (hLL : L ≤ 2048) (hl : lv_has ls 4 (lvL b0 (b 0) (a 0) i)) (V : LV D K a b s H locs w n lap op mu ba la en pr sc u) (next : ∀ (H : Heap) (locs : List Loc), LVx D K a b s H locs → W p l e room_1 s m #[Value.ref b0] below meth c H locs 600000 7302250 Q (F0 m 717 ls [])) : W p l e room_1 s m #[Value.ref b0] below meth c H locs 600000 7302250 Q (F0 m 484 ls []) := by
  obtain ⟨S, hX, hbl, hda, hdb, hab, hga, hgb⟩ := C
  obtain ⟨hG, hsc, hVO, hM, hC, hS⟩ := V
  have hbA : ¬ (fun q : Nat => s.heap.size ≤ q) b0 := Nat.not_le.mpr hbl
  refine lv_aload_n S.1 S.2.1 dL_law_484 rfl (lv_at hl 1 rfl) ?_
  refine la_arg (k := 1) (z := 1) S hX hbl hbA hS hl (by omega) hLL e1 (by decide) dL_law_485 dL_law_486 dL_law_487 dL_law_488 dL_law_489 ?_
  refine kX7_bestOf_a S hC hG hv tw_506 ro_1 hl.1 (Nat.le_of_ble_eq_true rfl) dL_law_490 ?_
  refine lv_aload_n S.1 S.2.1 dL_law_493 rfl (lv_at hl 2 rfl) ?_
  refine la_arg (k := 1) (z := 1) S hX hbl hbA hS hl (by omega) hLL e1 (by decide) dL_law_494 dL_law_495 dL_law_496 dL_law_497 dL_law_498 ?_
  refine kX8_bestOf_a S hM hG hv tw_788 ro_1 hl.1 (Nat.le_of_ble_eq_true rfl) dL_law_499 ?_
  refine lv_icmp_eq (tgt := 717) S.1 S.2.1 dL_law_502 (by decide) (fun _ => ?_) (fun h => absurd rfl h)
  exact next _ _ ⟨_, _, _, _, _, _, _, _, _, sc, u, hG, hsc, hVO, hM, hC, hS⟩
theorem lo_bestOf_n {L0 : Nat} (e1 : xs (i + 1) = nI L0) (h1L : 1 ≤ L0) (h2L : L0 ≤ 6) (hb : bsS w op mu ba en pr n lap = 1000000000) (C : LC p s m c b0 L xs a b) (hi : i + 4 ≤ L) (hLL : L ≤ 2048) (hl : lv_has ls 4 (lvL b0 (b 0) (a 0) i)) (V : LV D K a b s H locs w n lap op mu ba la en pr sc u) (next : ∀ (H : Heap) (locs : List Loc), LVx D K a b s H locs → W p l e room_1 s m #[Value.ref b0] below meth c H locs 600000 7302250 Q (F0 m 717 ls [])) : W p l e room_1 s m #[Value.ref b0] below meth c H locs 600000 7302250 Q (F0 m 484 ls []) := by
  obtain ⟨S, hX, hbl, hda, hdb, hab, hga, hgb⟩ := C
  obtain ⟨hG, hsc, hVO, hM, hC, hS⟩ := V
  have hbA : ¬ (fun q : Nat => s.heap.size ≤ q) b0 := Nat.not_le.mpr hbl
  refine lv_aload_n S.1 S.2.1 dL_law_484 rfl (lv_at hl 1 rfl) ?_
  refine la_arg (k := 1) (z := 1) S hX hbl hbA hS hl (by omega) hLL e1 (by decide) dL_law_485 dL_law_486 dL_law_487 dL_law_488 dL_law_489 ?_
  refine qX7_bestOf_n S hC (fun q hq => adA_ge hgb hq) hS hdb hG hVO h1L h2L hb tw_506 ro_1 hl.1 (Nat.le_of_ble_eq_true rfl) dL_law_490 (fun u1 H1 locs1 hu1 hC hS hzz hkp => ?_)
  have hM := PI_kp hM (mW_ad fun i h1 j h2 e => hab i j h1 h2 e) hkp
  refine lv_aload_n S.1 S.2.1 dL_law_493 rfl (lv_at hl 2 rfl) ?_
  refine la_arg (k := 1) (z := 1) S hX hbl hbA hS hl (by omega) hLL e1 (by decide) dL_law_494 dL_law_495 dL_law_496 dL_law_497 dL_law_498 ?_
  refine qX8_bestOf_n S hM (fun q hq => adA_ge hga hq) hS hda hG h1L h2L hb hsc tw_788 ro_1 hl.1 (Nat.le_of_ble_eq_true rfl) dL_law_499 (fun u2 H2 locs2 hu2 hM hS hzz hkp => ?_)
  have hC := PI_kp hC (cW_ad fun j h1 i h2 e => hab i j h2 h1 e.symm) hkp
  refine lv_icmp_eq (tgt := 717) S.1 S.2.1 dL_law_502 (by decide) (fun _ => ?_) (fun h => absurd rfl h)
  exact next _ _ ⟨_, _, _, _, _, _, _, _, _, u2, u1, hG, hu2, hu1, hM, hC, hS⟩
theorem lo_bestOf_y {L0 : Nat} (e1 : xs (i + 1) = nI L0) (h1L : 1 ≤ L0) (h2L : L0 ≤ 6) (hb : bsS w op mu ba en pr n lap ≠ 1000000000) (C : LC p s m c b0 L xs a b) (hi : i + 4 ≤ L) (hLL : L ≤ 2048) (hl : lv_has ls 4 (lvL b0 (b 0) (a 0) i)) (V : LV D K a b s H locs w n lap op mu ba la en pr sc u) (next : ∀ (H : Heap) (locs : List Loc), LVx D K a b s H locs → W p l e room_1 s m #[Value.ref b0] below meth c H locs 600000 7302250 Q (F0 m 717 ls [])) : W p l e room_1 s m #[Value.ref b0] below meth c H locs 600000 7302250 Q (F0 m 484 ls []) := by
  obtain ⟨S, hX, hbl, hda, hdb, hab, hga, hgb⟩ := C
  obtain ⟨hG, hsc, hVO, hM, hC, hS⟩ := V
  have hbA : ¬ (fun q : Nat => s.heap.size ≤ q) b0 := Nat.not_le.mpr hbl
  refine lv_aload_n S.1 S.2.1 dL_law_484 rfl (lv_at hl 1 rfl) ?_
  refine la_arg (k := 1) (z := 1) S hX hbl hbA hS hl (by omega) hLL e1 (by decide) dL_law_485 dL_law_486 dL_law_487 dL_law_488 dL_law_489 ?_
  refine qX7_bestOf_y S hC (fun q hq => adA_ge hgb hq) hS hdb hG hVO h1L h2L hb tw_506 ro_1 hl.1 (Nat.le_of_ble_eq_true rfl) dL_law_490 (fun u1 H1 locs1 hu1 hC hS hzz hkp => ?_)
  have hM := PI_kp hM (mW_ad fun i h1 j h2 e => hab i j h1 h2 e) hkp
  refine lv_aload_n S.1 S.2.1 dL_law_493 rfl (lv_at hl 2 rfl) ?_
  refine la_arg (k := 1) (z := 1) S hX hbl hbA hS hl (by omega) hLL e1 (by decide) dL_law_494 dL_law_495 dL_law_496 dL_law_497 dL_law_498 ?_
  refine qX8_bestOf_y S hM (fun q hq => adA_ge hga hq) hS hda hG h1L h2L hb hsc tw_788 ro_1 hl.1 (Nat.le_of_ble_eq_true rfl) dL_law_499 (fun u2 H2 locs2 hu2 hM hS hzz hkp => ?_)
  have hC := PI_kp hC (cW_ad fun j h1 i h2 e => hab i j h2 h1 e.symm) hkp
  refine lv_icmp_eq (tgt := 717) S.1 S.2.1 dL_law_502 (by decide) (fun _ => ?_) (fun h => absurd rfl h)
  exact next _ _ ⟨_, _, _, _, _, _, _, _, _, u2, u1, hG, hu2, hu1, hM, hC, hS⟩
theorem lo_highest  (C : LC p s m c b0 L xs a b) (hi : i + 4 ≤ L) (hLL : L ≤ 2048) (hl : lv_has ls 4 (lvL b0 (b 0) (a 0) i)) (V : LV D K a b s H locs w n lap op mu ba la en pr sc u) (next : ∀ (H : Heap) (locs : List Loc), LVx D K a b s H locs → W p l e room_1 s m #[Value.ref b0] below meth c H locs 600000 7302250 Q (F0 m 717 ls [])) : W p l e room_1 s m #[Value.ref b0] below meth c H locs 600000 7302250 Q (F0 m 507 ls []) := by
  obtain ⟨S, hX, hbl, hda, hdb, hab, hga, hgb⟩ := C
  obtain ⟨hG, hsc, hVO, hM, hC, hS⟩ := V
  have hbA : ¬ (fun q : Nat => s.heap.size ≤ q) b0 := Nat.not_le.mpr hbl
  refine lv_aload_n S.1 S.2.1 dL_law_507 rfl (lv_at hl 1 rfl) ?_
  refine qX7_highest S hC (fun q hq => adA_ge hgb hq) hS hdb hG hVO  tw_514 ro_1 hl.1 (Nat.le_of_ble_eq_true rfl) dL_law_508 (fun u1 H1 locs1 hu1 hC hS hzz hkp => ?_)
  have hM := PI_kp hM (mW_ad fun i h1 j h2 e => hab i j h1 h2 e) hkp
  refine lv_aload_n S.1 S.2.1 dL_law_511 rfl (lv_at hl 2 rfl) ?_
  refine qX8_highest S hM (fun q hq => adA_ge hga hq) hS hda hG hsc tw_796 ro_1 hl.1 (Nat.le_of_ble_eq_true rfl) dL_law_512 (fun u2 H2 locs2 hu2 hM hS hzz hkp => ?_)
  have hC := PI_kp hC (cW_ad fun j h1 i h2 e => hab i j h2 h1 e.symm) hkp
  refine lv_icmp_eq (tgt := 717) S.1 S.2.1 dL_law_515 (by decide) (fun _ => ?_) (fun h => absurd rfl h)
  exact next _ _ ⟨_, _, _, _, _, _, _, _, _, u2, u1, hG, hu2, hu1, hM, hC, hS⟩
theorem lo_byLap_a {v : Int32} (e1 : xs (i + 1) = v) (hv : wiI v (nI 1) (nI 3) = false) (C : LC p s m c b0 L xs a b) (hi : i + 4 ≤ L) (hLL : L ≤ 2048) (hl : lv_has ls 4 (lvL b0 (b 0) (a 0) i)) (V : LV D K a b s H locs w n lap op mu ba la en pr sc u) (next : ∀ (H : Heap) (locs : List Loc), LVx D K a b s H locs → W p l e room_1 s m #[Value.ref b0] below meth c H locs 600000 7302250 Q (F0 m 717 ls [])) : W p l e room_1 s m #[Value.ref b0] below meth c H locs 600000 7302250 Q (F0 m 520 ls []) := by
  obtain ⟨S, hX, hbl, hda, hdb, hab, hga, hgb⟩ := C
  obtain ⟨hG, hsc, hVO, hM, hC, hS⟩ := V
  have hbA : ¬ (fun q : Nat => s.heap.size ≤ q) b0 := Nat.not_le.mpr hbl
  refine lv_aload_n S.1 S.2.1 dL_law_520 rfl (lv_at hl 1 rfl) ?_
  refine la_arg (k := 1) (z := 1) S hX hbl hbA hS hl (by omega) hLL e1 (by decide) dL_law_521 dL_law_522 dL_law_523 dL_law_524 dL_law_525 ?_
  refine kX7_byLap_a S hC hG hv tw_518 ro_1 hl.1 (Nat.le_of_ble_eq_true rfl) dL_law_526 ?_
  refine lv_aload_n S.1 S.2.1 dL_law_529 rfl (lv_at hl 2 rfl) ?_
  refine la_arg (k := 1) (z := 1) S hX hbl hbA hS hl (by omega) hLL e1 (by decide) dL_law_530 dL_law_531 dL_law_532 dL_law_533 dL_law_534 ?_
  refine kX8_byLap_a S hM hG hv tw_804 ro_1 hl.1 (Nat.le_of_ble_eq_true rfl) dL_law_535 ?_
  refine lv_icmp_eq (tgt := 717) S.1 S.2.1 dL_law_538 (by decide) (fun _ => ?_) (fun h => absurd rfl h)
  exact next _ _ ⟨_, _, _, _, _, _, _, _, _, sc, u, hG, hsc, hVO, hM, hC, hS⟩
theorem lo_byLap_b {z : Nat} (e1 : xs (i + 1) = nI z) (hz1 : 1 ≤ z) (hz2 : z ≤ 3) (C : LC p s m c b0 L xs a b) (hi : i + 4 ≤ L) (hLL : L ≤ 2048) (hl : lv_has ls 4 (lvL b0 (b 0) (a 0) i)) (V : LV D K a b s H locs w n lap op mu ba la en pr sc u) (next : ∀ (H : Heap) (locs : List Loc), LVx D K a b s H locs → W p l e room_1 s m #[Value.ref b0] below meth c H locs 600000 7302250 Q (F0 m 717 ls [])) : W p l e room_1 s m #[Value.ref b0] below meth c H locs 600000 7302250 Q (F0 m 520 ls []) := by
  obtain ⟨S, hX, hbl, hda, hdb, hab, hga, hgb⟩ := C
  obtain ⟨hG, hsc, hVO, hM, hC, hS⟩ := V
  have hbA : ¬ (fun q : Nat => s.heap.size ≤ q) b0 := Nat.not_le.mpr hbl
  refine lv_aload_n S.1 S.2.1 dL_law_520 rfl (lv_at hl 1 rfl) ?_
  refine la_arg (k := 1) (z := 1) S hX hbl hbA hS hl (by omega) hLL e1 (by decide) dL_law_521 dL_law_522 dL_law_523 dL_law_524 dL_law_525 ?_
  refine qX7_byLap_b S hC (fun q hq => adA_ge hgb hq) hS hdb hG hVO hz1 hz2 tw_518 ro_1 hl.1 (Nat.le_of_ble_eq_true rfl) dL_law_526 (fun u1 H1 locs1 hu1 hC hS hzz hkp => ?_)
  have hM := PI_kp hM (mW_ad fun i h1 j h2 e => hab i j h1 h2 e) hkp
  refine lv_aload_n S.1 S.2.1 dL_law_529 rfl (lv_at hl 2 rfl) ?_
  refine la_arg (k := 1) (z := 1) S hX hbl hbA hS hl (by omega) hLL e1 (by decide) dL_law_530 dL_law_531 dL_law_532 dL_law_533 dL_law_534 ?_
  refine qX8_byLap_b S hM (fun q hq => adA_ge hga hq) hS hda hG hz1 hz2 hsc tw_804 ro_1 hl.1 (Nat.le_of_ble_eq_true rfl) dL_law_535 (fun u2 H2 locs2 hu2 hM hS hzz hkp => ?_)
  have hC := PI_kp hC (cW_ad fun j h1 i h2 e => hab i j h2 h1 e.symm) hkp
  refine lv_icmp_eq (tgt := 717) S.1 S.2.1 dL_law_538 (by decide) (fun _ => ?_) (fun h => absurd rfl h)
  exact next _ _ ⟨_, _, _, _, _, _, _, _, _, u2, u1, hG, hu2, hu1, hM, hC, hS⟩
theorem lo_lay_a {v z : Int32} (e1 : xs (i + 1) = v) (e2 : xs (i + 2) = z) (hv : wiI v 0 (nI n - 1) = false) (C : LC p s m c b0 L xs a b) (hi : i + 4 ≤ L) (hLL : L ≤ 2048) (hl : lv_has ls 4 (lvL b0 (b 0) (a 0) i)) (V : LV D K a b s H locs w n lap op mu ba la en pr sc u) (next : ∀ (H : Heap) (locs : List Loc), LVx D K a b s H locs → W p l e room_1 s m #[Value.ref b0] below meth c H locs 600000 7302250 Q (F0 m 717 ls [])) : W p l e room_1 s m #[Value.ref b0] below meth c H locs 600000 7302250 Q (F0 m 543 ls []) := by
  obtain ⟨S, hX, hbl, hda, hdb, hab, hga, hgb⟩ := C
  obtain ⟨hG, hsc, hVO, hM, hC, hS⟩ := V
  have hbA : ¬ (fun q : Nat => s.heap.size ≤ q) b0 := Nat.not_le.mpr hbl
  refine lv_aload_n S.1 S.2.1 dL_law_543 rfl (lv_at hl 1 rfl) ?_
  refine la_arg (k := 1) (z := 1) S hX hbl hbA hS hl (by omega) hLL e1 (by decide) dL_law_544 dL_law_545 dL_law_546 dL_law_547 dL_law_548 ?_
  refine la_arg (k := 2) (z := 2) S hX hbl hbA hS hl (by omega) hLL e2 (by decide) dL_law_549 dL_law_550 dL_law_551 dL_law_552 dL_law_553 ?_
  refine kX7_lay_a S hC hG hv tw_522 ro_1 hl.1 (Nat.le_of_ble_eq_true rfl) dL_law_554 ?_
  refine lv_aload_n S.1 S.2.1 dL_law_557 rfl (lv_at hl 2 rfl) ?_
  refine la_arg (k := 1) (z := 1) S hX hbl hbA hS hl (by omega) hLL e1 (by decide) dL_law_558 dL_law_559 dL_law_560 dL_law_561 dL_law_562 ?_
  refine la_arg (k := 2) (z := 2) S hX hbl hbA hS hl (by omega) hLL e2 (by decide) dL_law_563 dL_law_564 dL_law_565 dL_law_566 dL_law_567 ?_
  refine kX8_lay_a S hM hG hv tw_808 ro_1 hl.1 (Nat.le_of_ble_eq_true rfl) dL_law_568 ?_
  refine lv_icmp_eq (tgt := 717) S.1 S.2.1 dL_law_571 (by decide) (fun _ => ?_) (fun h => absurd rfl h)
  exact next _ _ ⟨_, _, _, _, _, _, _, _, _, sc, u, hG, hsc, hVO, hM, hC, hS⟩
theorem lo_lay_b {ci : Nat} {z : Int32} (e1 : xs (i + 1) = nI ci) (e2 : xs (i + 2) = z) (hc : ci < n) (hz : plI w z = false) (C : LC p s m c b0 L xs a b) (hi : i + 4 ≤ L) (hLL : L ≤ 2048) (hl : lv_has ls 4 (lvL b0 (b 0) (a 0) i)) (V : LV D K a b s H locs w n lap op mu ba la en pr sc u) (next : ∀ (H : Heap) (locs : List Loc), LVx D K a b s H locs → W p l e room_1 s m #[Value.ref b0] below meth c H locs 600000 7302250 Q (F0 m 717 ls [])) : W p l e room_1 s m #[Value.ref b0] below meth c H locs 600000 7302250 Q (F0 m 543 ls []) := by
  obtain ⟨S, hX, hbl, hda, hdb, hab, hga, hgb⟩ := C
  obtain ⟨hG, hsc, hVO, hM, hC, hS⟩ := V
  have hbA : ¬ (fun q : Nat => s.heap.size ≤ q) b0 := Nat.not_le.mpr hbl
  refine lv_aload_n S.1 S.2.1 dL_law_543 rfl (lv_at hl 1 rfl) ?_
  refine la_arg (k := 1) (z := 1) S hX hbl hbA hS hl (by omega) hLL e1 (by decide) dL_law_544 dL_law_545 dL_law_546 dL_law_547 dL_law_548 ?_
  refine la_arg (k := 2) (z := 2) S hX hbl hbA hS hl (by omega) hLL e2 (by decide) dL_law_549 dL_law_550 dL_law_551 dL_law_552 dL_law_553 ?_
  refine kX7_lay_b S hC hG hc hz tw_522 ro_1 hl.1 (Nat.le_of_ble_eq_true rfl) dL_law_554 ?_
  refine lv_aload_n S.1 S.2.1 dL_law_557 rfl (lv_at hl 2 rfl) ?_
  refine la_arg (k := 1) (z := 1) S hX hbl hbA hS hl (by omega) hLL e1 (by decide) dL_law_558 dL_law_559 dL_law_560 dL_law_561 dL_law_562 ?_
  refine la_arg (k := 2) (z := 2) S hX hbl hbA hS hl (by omega) hLL e2 (by decide) dL_law_563 dL_law_564 dL_law_565 dL_law_566 dL_law_567 ?_
  refine kX8_lay_b S hM hG hc hz tw_808 ro_1 hl.1 (Nat.le_of_ble_eq_true rfl) dL_law_568 ?_
  refine lv_icmp_eq (tgt := 717) S.1 S.2.1 dL_law_571 (by decide) (fun _ => ?_) (fun h => absurd rfl h)
  exact next _ _ ⟨_, _, _, _, _, _, _, _, _, sc, u, hG, hsc, hVO, hM, hC, hS⟩
theorem lo_lay_c {ci k : Nat} (e1 : xs (i + 1) = nI ci) (e2 : xs (i + 2) = nI k) (hc : ci < n) (hk : k < 2 ^ w) (hk2 : k % 2 = 0) (C : LC p s m c b0 L xs a b) (hi : i + 4 ≤ L) (hLL : L ≤ 2048) (hl : lv_has ls 4 (lvL b0 (b 0) (a 0) i)) (V : LV D K a b s H locs w n lap op mu ba la en pr sc u) (next : ∀ (H : Heap) (locs : List Loc), LVx D K a b s H locs → W p l e room_1 s m #[Value.ref b0] below meth c H locs 600000 7302250 Q (F0 m 717 ls [])) : W p l e room_1 s m #[Value.ref b0] below meth c H locs 600000 7302250 Q (F0 m 543 ls []) := by
  obtain ⟨S, hX, hbl, hda, hdb, hab, hga, hgb⟩ := C
  obtain ⟨hG, hsc, hVO, hM, hC, hS⟩ := V
  have hbA : ¬ (fun q : Nat => s.heap.size ≤ q) b0 := Nat.not_le.mpr hbl
  refine lv_aload_n S.1 S.2.1 dL_law_543 rfl (lv_at hl 1 rfl) ?_
  refine la_arg (k := 1) (z := 1) S hX hbl hbA hS hl (by omega) hLL e1 (by decide) dL_law_544 dL_law_545 dL_law_546 dL_law_547 dL_law_548 ?_
  refine la_arg (k := 2) (z := 2) S hX hbl hbA hS hl (by omega) hLL e2 (by decide) dL_law_549 dL_law_550 dL_law_551 dL_law_552 dL_law_553 ?_
  refine qX7_lay_c S hC (fun q hq => adA_ge hgb hq) hS hdb hG hVO hc hk hk2 tw_522 ro_1 hl.1 (Nat.le_of_ble_eq_true rfl) dL_law_554 (fun u1 H1 locs1 hu1 hC hS hzz hkp => ?_)
  have hM := PI_kp hM (mW_ad fun i h1 j h2 e => hab i j h1 h2 e) hkp
  refine lv_aload_n S.1 S.2.1 dL_law_557 rfl (lv_at hl 2 rfl) ?_
  refine la_arg (k := 1) (z := 1) S hX hbl hbA hS hl (by omega) hLL e1 (by decide) dL_law_558 dL_law_559 dL_law_560 dL_law_561 dL_law_562 ?_
  refine la_arg (k := 2) (z := 2) S hX hbl hbA hS hl (by omega) hLL e2 (by decide) dL_law_563 dL_law_564 dL_law_565 dL_law_566 dL_law_567 ?_
  refine qX8_lay_c S hM (fun q hq => adA_ge hga hq) hS hda hG hc hk hk2 tw_808 ro_1 hl.1 (Nat.le_of_ble_eq_true rfl) dL_law_568 (fun u2 H2 locs2 hu2 hM hS hzz hkp => ?_)
  have hC := PI_kp hC (cW_ad fun j h1 i h2 e => hab i j h2 h1 e.symm) hkp
  refine lv_icmp_eq (tgt := 717) S.1 S.2.1 dL_law_571 (by decide) (fun _ => ?_) (fun h => absurd rfl h)
  exact next _ _ ⟨_, _, _, _, _, _, _, _, _, sc, u1, (GOK_y hG hk hk2), hsc, hu1, hM, hC, hS⟩
theorem lo_layBest_n  (hb : bsS w op mu ba en pr n lap = 1000000000) (C : LC p s m c b0 L xs a b) (hi : i + 4 ≤ L) (hLL : L ≤ 2048) (hl : lv_has ls 4 (lvL b0 (b 0) (a 0) i)) (V : LV D K a b s H locs w n lap op mu ba la en pr sc u) (next : ∀ (H : Heap) (locs : List Loc), LVx D K a b s H locs → W p l e room_1 s m #[Value.ref b0] below meth c H locs 600000 7302250 Q (F0 m 717 ls [])) : W p l e room_1 s m #[Value.ref b0] below meth c H locs 600000 7302250 Q (F0 m 576 ls []) := by
  obtain ⟨S, hX, hbl, hda, hdb, hab, hga, hgb⟩ := C
  obtain ⟨hG, hsc, hVO, hM, hC, hS⟩ := V
  have hbA : ¬ (fun q : Nat => s.heap.size ≤ q) b0 := Nat.not_le.mpr hbl
  refine lv_aload_n S.1 S.2.1 dL_law_576 rfl (lv_at hl 1 rfl) ?_
  refine qX7_layBest_n S hC (fun q hq => adA_ge hgb hq) hS hdb hG hVO hb tw_526 ro_1 hl.1 (Nat.le_of_ble_eq_true rfl) dL_law_577 (fun u1 H1 locs1 hu1 hC hS hzz hkp => ?_)
  have hM := PI_kp hM (mW_ad fun i h1 j h2 e => hab i j h1 h2 e) hkp
  refine lv_aload_n S.1 S.2.1 dL_law_580 rfl (lv_at hl 2 rfl) ?_
  refine qX8_layBest_n S hM (fun q hq => adA_ge hga hq) hS hda hG hb hsc tw_812 ro_1 hl.1 (Nat.le_of_ble_eq_true rfl) dL_law_581 (fun u2 H2 locs2 hu2 hM hS hzz hkp => ?_)
  have hC := PI_kp hC (cW_ad fun j h1 i h2 e => hab i j h2 h1 e.symm) hkp
  refine lv_icmp_eq (tgt := 717) S.1 S.2.1 dL_law_584 (by decide) (fun _ => ?_) (fun h => absurd rfl h)
  exact next _ _ ⟨_, _, _, _, _, _, _, _, _, u2, u1, hG, hu2, hu1, hM, hC, hS⟩
theorem lo_layBest_y  (hb : bsS w op mu ba en pr n lap ≠ 1000000000) (C : LC p s m c b0 L xs a b) (hi : i + 4 ≤ L) (hLL : L ≤ 2048) (hl : lv_has ls 4 (lvL b0 (b 0) (a 0) i)) (V : LV D K a b s H locs w n lap op mu ba la en pr sc u) (next : ∀ (H : Heap) (locs : List Loc), LVx D K a b s H locs → W p l e room_1 s m #[Value.ref b0] below meth c H locs 600000 7302250 Q (F0 m 717 ls [])) : W p l e room_1 s m #[Value.ref b0] below meth c H locs 600000 7302250 Q (F0 m 576 ls []) := by
  obtain ⟨S, hX, hbl, hda, hdb, hab, hga, hgb⟩ := C
  obtain ⟨hG, hsc, hVO, hM, hC, hS⟩ := V
  have hbA : ¬ (fun q : Nat => s.heap.size ≤ q) b0 := Nat.not_le.mpr hbl
  refine lv_aload_n S.1 S.2.1 dL_law_576 rfl (lv_at hl 1 rfl) ?_
  refine qX7_layBest_y S hC (fun q hq => adA_ge hgb hq) hS hdb hG hVO hb tw_526 ro_1 hl.1 (Nat.le_of_ble_eq_true rfl) dL_law_577 (fun u1 H1 locs1 hu1 hC hS hzz hkp => ?_)
  have hM := PI_kp hM (mW_ad fun i h1 j h2 e => hab i j h1 h2 e) hkp
  refine lv_aload_n S.1 S.2.1 dL_law_580 rfl (lv_at hl 2 rfl) ?_
  refine qX8_layBest_y S hM (fun q hq => adA_ge hga hq) hS hda hG hb hsc tw_812 ro_1 hl.1 (Nat.le_of_ble_eq_true rfl) dL_law_581 (fun u2 H2 locs2 hu2 hM hS hzz hkp => ?_)
  have hC := PI_kp hC (cW_ad fun j h1 i h2 e => hab i j h2 h1 e.symm) hkp
  refine lv_icmp_eq (tgt := 717) S.1 S.2.1 dL_law_584 (by decide) (fun _ => ?_) (fun h => absurd rfl h)
  exact next _ _ ⟨_, _, _, _, _, _, _, _, _, u2, u1, (GOK_z hG), hu2, hu1, hM, hC, hS⟩
theorem lo_wrong_a {v : Int32} (e1 : xs (i + 1) = v) (hv : wiI v (nI 0) (nI 1) = false) (C : LC p s m c b0 L xs a b) (hi : i + 4 ≤ L) (hLL : L ≤ 2048) (hl : lv_has ls 4 (lvL b0 (b 0) (a 0) i)) (V : LV D K a b s H locs w n lap op mu ba la en pr sc u) (next : ∀ (H : Heap) (locs : List Loc), LVx D K a b s H locs → W p l e room_1 s m #[Value.ref b0] below meth c H locs 600000 7302250 Q (F0 m 717 ls [])) : W p l e room_1 s m #[Value.ref b0] below meth c H locs 600000 7302250 Q (F0 m 589 ls []) := by
  obtain ⟨S, hX, hbl, hda, hdb, hab, hga, hgb⟩ := C
  obtain ⟨hG, hsc, hVO, hM, hC, hS⟩ := V
  have hbA : ¬ (fun q : Nat => s.heap.size ≤ q) b0 := Nat.not_le.mpr hbl
  refine lv_aload_n S.1 S.2.1 dL_law_589 rfl (lv_at hl 1 rfl) ?_
  refine la_arg (k := 1) (z := 1) S hX hbl hbA hS hl (by omega) hLL e1 (by decide) dL_law_590 dL_law_591 dL_law_592 dL_law_593 dL_law_594 ?_
  refine kX7_wrong_a S hC hG hv tw_530 ro_1 hl.1 (Nat.le_of_ble_eq_true rfl) dL_law_595 ?_
  refine lv_aload_n S.1 S.2.1 dL_law_598 rfl (lv_at hl 2 rfl) ?_
  refine la_arg (k := 1) (z := 1) S hX hbl hbA hS hl (by omega) hLL e1 (by decide) dL_law_599 dL_law_600 dL_law_601 dL_law_602 dL_law_603 ?_
  refine kX8_wrong_a S hM hG hv tw_820 ro_1 hl.1 (Nat.le_of_ble_eq_true rfl) dL_law_604 ?_
  refine lv_icmp_eq (tgt := 717) S.1 S.2.1 dL_law_607 (by decide) (fun _ => ?_) (fun h => absurd rfl h)
  exact next _ _ ⟨_, _, _, _, _, _, _, _, _, sc, u, hG, hsc, hVO, hM, hC, hS⟩
theorem lo_wrong_0  (e1 : xs (i + 1) = nI 0) (C : LC p s m c b0 L xs a b) (hi : i + 4 ≤ L) (hLL : L ≤ 2048) (hl : lv_has ls 4 (lvL b0 (b 0) (a 0) i)) (V : LV D K a b s H locs w n lap op mu ba la en pr sc u) (next : ∀ (H : Heap) (locs : List Loc), LVx D K a b s H locs → W p l e room_1 s m #[Value.ref b0] below meth c H locs 600000 7302250 Q (F0 m 717 ls [])) : W p l e room_1 s m #[Value.ref b0] below meth c H locs 600000 7302250 Q (F0 m 589 ls []) := by
  obtain ⟨S, hX, hbl, hda, hdb, hab, hga, hgb⟩ := C
  obtain ⟨hG, hsc, hVO, hM, hC, hS⟩ := V
  have hbA : ¬ (fun q : Nat => s.heap.size ≤ q) b0 := Nat.not_le.mpr hbl
  refine lv_aload_n S.1 S.2.1 dL_law_589 rfl (lv_at hl 1 rfl) ?_
  refine la_arg (k := 1) (z := 1) S hX hbl hbA hS hl (by omega) hLL e1 (by decide) dL_law_590 dL_law_591 dL_law_592 dL_law_593 dL_law_594 ?_
  refine kX7_wrong_0 S hC hG  tw_530 ro_1 hl.1 (Nat.le_of_ble_eq_true rfl) dL_law_595 ?_
  refine lv_aload_n S.1 S.2.1 dL_law_598 rfl (lv_at hl 2 rfl) ?_
  refine la_arg (k := 1) (z := 1) S hX hbl hbA hS hl (by omega) hLL e1 (by decide) dL_law_599 dL_law_600 dL_law_601 dL_law_602 dL_law_603 ?_
  refine kX8_wrong_0 S hM hG  tw_820 ro_1 hl.1 (Nat.le_of_ble_eq_true rfl) dL_law_604 ?_
  refine lv_icmp_eq (tgt := 717) S.1 S.2.1 dL_law_607 (by decide) (fun _ => ?_) (fun h => absurd rfl h)
  exact next _ _ ⟨_, _, _, _, _, _, _, _, _, sc, u, hG, hsc, hVO, hM, hC, hS⟩
theorem lo_wrong_1  (e1 : xs (i + 1) = nI 1) (C : LC p s m c b0 L xs a b) (hi : i + 4 ≤ L) (hLL : L ≤ 2048) (hl : lv_has ls 4 (lvL b0 (b 0) (a 0) i)) (V : LV D K a b s H locs w n lap op mu ba la en pr sc u) (next : ∀ (H : Heap) (locs : List Loc), LVx D K a b s H locs → W p l e room_1 s m #[Value.ref b0] below meth c H locs 600000 7302250 Q (F0 m 717 ls [])) : W p l e room_1 s m #[Value.ref b0] below meth c H locs 600000 7302250 Q (F0 m 589 ls []) := by
  obtain ⟨S, hX, hbl, hda, hdb, hab, hga, hgb⟩ := C
  obtain ⟨hG, hsc, hVO, hM, hC, hS⟩ := V
  have hbA : ¬ (fun q : Nat => s.heap.size ≤ q) b0 := Nat.not_le.mpr hbl
  refine lv_aload_n S.1 S.2.1 dL_law_589 rfl (lv_at hl 1 rfl) ?_
  refine la_arg (k := 1) (z := 1) S hX hbl hbA hS hl (by omega) hLL e1 (by decide) dL_law_590 dL_law_591 dL_law_592 dL_law_593 dL_law_594 ?_
  refine kX7_wrong_1 S hC hG  tw_530 ro_1 hl.1 (Nat.le_of_ble_eq_true rfl) dL_law_595 ?_
  refine lv_aload_n S.1 S.2.1 dL_law_598 rfl (lv_at hl 2 rfl) ?_
  refine la_arg (k := 1) (z := 1) S hX hbl hbA hS hl (by omega) hLL e1 (by decide) dL_law_599 dL_law_600 dL_law_601 dL_law_602 dL_law_603 ?_
  refine kX8_wrong_1 S hM hG  tw_820 ro_1 hl.1 (Nat.le_of_ble_eq_true rfl) dL_law_604 ?_
  refine lv_icmp_eq (tgt := 717) S.1 S.2.1 dL_law_607 (by decide) (fun _ => ?_) (fun h => absurd rfl h)
  exact next _ _ ⟨_, _, _, _, _, _, _, _, _, sc, u, hG, hsc, hVO, hM, hC, hS⟩
theorem lo_cost  (C : LC p s m c b0 L xs a b) (hi : i + 4 ≤ L) (hLL : L ≤ 2048) (hl : lv_has ls 4 (lvL b0 (b 0) (a 0) i)) (V : LV D K a b s H locs w n lap op mu ba la en pr sc u) (next : ∀ (H : Heap) (locs : List Loc), LVx D K a b s H locs → W p l e room_1 s m #[Value.ref b0] below meth c H locs 600000 7302250 Q (F0 m 717 ls [])) : W p l e room_1 s m #[Value.ref b0] below meth c H locs 600000 7302250 Q (F0 m 612 ls []) := by
  obtain ⟨S, hX, hbl, hda, hdb, hab, hga, hgb⟩ := C
  obtain ⟨hG, hsc, hVO, hM, hC, hS⟩ := V
  have hbA : ¬ (fun q : Nat => s.heap.size ≤ q) b0 := Nat.not_le.mpr hbl
  refine lv_aload_n S.1 S.2.1 dL_law_612 rfl (lv_at hl 1 rfl) ?_
  refine qX7_cost S hC (fun q hq => adA_ge hgb hq) hS hdb hG hVO  tw_545 ro_1 hl.1 (Nat.le_of_ble_eq_true rfl) dL_law_613 (fun u1 H1 locs1 hu1 hC hS hzz hkp => ?_)
  have hM := PI_kp hM (mW_ad fun i h1 j h2 e => hab i j h1 h2 e) hkp
  refine lv_aload_n S.1 S.2.1 dL_law_616 rfl (lv_at hl 2 rfl) ?_
  refine kX8_cost S hM hG  tw_828 ro_1 hl.1 (Nat.le_of_ble_eq_true rfl) dL_law_617 ?_
  refine lv_icmp_eq (tgt := 717) S.1 S.2.1 dL_law_620 (by decide) (fun _ => ?_) (fun h => absurd rfl h)
  exact next _ _ ⟨_, _, _, _, _, _, _, _, _, sc, u1, hG, hsc, hu1, hM, hC, hS⟩
theorem lo_pieces_a {v : Int32} (e1 : xs (i + 1) = v) (hv : wiI v (nI 1) (nI 10) = false) (C : LC p s m c b0 L xs a b) (hi : i + 4 ≤ L) (hLL : L ≤ 2048) (hl : lv_has ls 4 (lvL b0 (b 0) (a 0) i)) (V : LV D K a b s H locs w n lap op mu ba la en pr sc u) (next : ∀ (H : Heap) (locs : List Loc), LVx D K a b s H locs → W p l e room_1 s m #[Value.ref b0] below meth c H locs 600000 7302250 Q (F0 m 717 ls [])) : W p l e room_1 s m #[Value.ref b0] below meth c H locs 600000 7302250 Q (F0 m 625 ls []) := by
  obtain ⟨S, hX, hbl, hda, hdb, hab, hga, hgb⟩ := C
  obtain ⟨hG, hsc, hVO, hM, hC, hS⟩ := V
  have hbA : ¬ (fun q : Nat => s.heap.size ≤ q) b0 := Nat.not_le.mpr hbl
  refine lv_aload_n S.1 S.2.1 dL_law_625 rfl (lv_at hl 1 rfl) ?_
  refine la_arg (k := 1) (z := 1) S hX hbl hbA hS hl (by omega) hLL e1 (by decide) dL_law_626 dL_law_627 dL_law_628 dL_law_629 dL_law_630 ?_
  refine kX7_pieces_a S hC hG hv tw_558 ro_1 hl.1 (Nat.le_of_ble_eq_true rfl) dL_law_631 ?_
  refine lv_aload_n S.1 S.2.1 dL_law_634 rfl (lv_at hl 2 rfl) ?_
  refine la_arg (k := 1) (z := 1) S hX hbl hbA hS hl (by omega) hLL e1 (by decide) dL_law_635 dL_law_636 dL_law_637 dL_law_638 dL_law_639 ?_
  refine kX8_pieces_a S hM hG hv tw_832 ro_1 hl.1 (Nat.le_of_ble_eq_true rfl) dL_law_640 ?_
  refine lv_icmp_eq (tgt := 717) S.1 S.2.1 dL_law_643 (by decide) (fun _ => ?_) (fun h => absurd rfl h)
  exact next _ _ ⟨_, _, _, _, _, _, _, _, _, sc, u, hG, hsc, hVO, hM, hC, hS⟩
theorem lo_pieces_b {L0 : Nat} (e1 : xs (i + 1) = nI L0) (h1 : 1 ≤ L0) (h2 : L0 ≤ 10) (C : LC p s m c b0 L xs a b) (hi : i + 4 ≤ L) (hLL : L ≤ 2048) (hl : lv_has ls 4 (lvL b0 (b 0) (a 0) i)) (V : LV D K a b s H locs w n lap op mu ba la en pr sc u) (next : ∀ (H : Heap) (locs : List Loc), LVx D K a b s H locs → W p l e room_1 s m #[Value.ref b0] below meth c H locs 600000 7302250 Q (F0 m 717 ls [])) : W p l e room_1 s m #[Value.ref b0] below meth c H locs 600000 7302250 Q (F0 m 625 ls []) := by
  obtain ⟨S, hX, hbl, hda, hdb, hab, hga, hgb⟩ := C
  obtain ⟨hG, hsc, hVO, hM, hC, hS⟩ := V
  have hbA : ¬ (fun q : Nat => s.heap.size ≤ q) b0 := Nat.not_le.mpr hbl
  refine lv_aload_n S.1 S.2.1 dL_law_625 rfl (lv_at hl 1 rfl) ?_
  refine la_arg (k := 1) (z := 1) S hX hbl hbA hS hl (by omega) hLL e1 (by decide) dL_law_626 dL_law_627 dL_law_628 dL_law_629 dL_law_630 ?_
  refine qX7_pieces_b S hC (fun q hq => adA_ge hgb hq) hS hdb hG hVO h1 h2 tw_558 ro_1 hl.1 (Nat.le_of_ble_eq_true rfl) dL_law_631 (fun u1 H1 locs1 hu1 hC hS hzz hkp => ?_)
  have hM := PI_kp hM (mW_ad fun i h1 j h2 e => hab i j h1 h2 e) hkp
  refine lv_aload_n S.1 S.2.1 dL_law_634 rfl (lv_at hl 2 rfl) ?_
  refine la_arg (k := 1) (z := 1) S hX hbl hbA hS hl (by omega) hLL e1 (by decide) dL_law_635 dL_law_636 dL_law_637 dL_law_638 dL_law_639 ?_
  refine kX8_pieces_b S hM hG h1 h2 tw_832 ro_1 hl.1 (Nat.le_of_ble_eq_true rfl) dL_law_640 ?_
  refine lv_icmp_eq (tgt := 717) S.1 S.2.1 dL_law_643 (by decide) (fun _ => ?_) (fun h => absurd rfl h)
  exact next _ _ ⟨_, _, _, _, _, _, _, _, _, sc, u1, hG, hsc, hu1, hM, hC, hS⟩
theorem lo_piece_a {v z : Int32} (e1 : xs (i + 1) = v) (e2 : xs (i + 2) = z) (hv : wiI v 0 (nI n - 1) = false) (C : LC p s m c b0 L xs a b) (hi : i + 4 ≤ L) (hLL : L ≤ 2048) (hl : lv_has ls 4 (lvL b0 (b 0) (a 0) i)) (V : LV D K a b s H locs w n lap op mu ba la en pr sc u) (next : ∀ (H : Heap) (locs : List Loc), LVx D K a b s H locs → W p l e room_1 s m #[Value.ref b0] below meth c H locs 600000 7302250 Q (F0 m 717 ls [])) : W p l e room_1 s m #[Value.ref b0] below meth c H locs 600000 7302250 Q (F0 m 648 ls []) := by
  obtain ⟨S, hX, hbl, hda, hdb, hab, hga, hgb⟩ := C
  obtain ⟨hG, hsc, hVO, hM, hC, hS⟩ := V
  have hbA : ¬ (fun q : Nat => s.heap.size ≤ q) b0 := Nat.not_le.mpr hbl
  refine lv_aload_n S.1 S.2.1 dL_law_648 rfl (lv_at hl 1 rfl) ?_
  refine la_arg (k := 1) (z := 1) S hX hbl hbA hS hl (by omega) hLL e1 (by decide) dL_law_649 dL_law_650 dL_law_651 dL_law_652 dL_law_653 ?_
  refine la_arg (k := 2) (z := 2) S hX hbl hbA hS hl (by omega) hLL e2 (by decide) dL_law_654 dL_law_655 dL_law_656 dL_law_657 dL_law_658 ?_
  refine kX7_piece_a S hC hG hv tw_562 ro_1 hl.1 (Nat.le_of_ble_eq_true rfl) dL_law_659 ?_
  refine lv_aload_n S.1 S.2.1 dL_law_662 rfl (lv_at hl 2 rfl) ?_
  refine la_arg (k := 1) (z := 1) S hX hbl hbA hS hl (by omega) hLL e1 (by decide) dL_law_663 dL_law_664 dL_law_665 dL_law_666 dL_law_667 ?_
  refine la_arg (k := 2) (z := 2) S hX hbl hbA hS hl (by omega) hLL e2 (by decide) dL_law_668 dL_law_669 dL_law_670 dL_law_671 dL_law_672 ?_
  refine kX8_piece_a S hM hG hv tw_840 ro_1 hl.1 (Nat.le_of_ble_eq_true rfl) dL_law_673 ?_
  refine lv_icmp_eq (tgt := 717) S.1 S.2.1 dL_law_676 (by decide) (fun _ => ?_) (fun h => absurd rfl h)
  exact next _ _ ⟨_, _, _, _, _, _, _, _, _, sc, u, hG, hsc, hVO, hM, hC, hS⟩
theorem lo_piece_b {ci : Nat} {z : Int32} (e1 : xs (i + 1) = nI ci) (e2 : xs (i + 2) = z) (hc : ci < n) (hz : wiI z (nI 0) (nI (w - 1)) = false) (C : LC p s m c b0 L xs a b) (hi : i + 4 ≤ L) (hLL : L ≤ 2048) (hl : lv_has ls 4 (lvL b0 (b 0) (a 0) i)) (V : LV D K a b s H locs w n lap op mu ba la en pr sc u) (next : ∀ (H : Heap) (locs : List Loc), LVx D K a b s H locs → W p l e room_1 s m #[Value.ref b0] below meth c H locs 600000 7302250 Q (F0 m 717 ls [])) : W p l e room_1 s m #[Value.ref b0] below meth c H locs 600000 7302250 Q (F0 m 648 ls []) := by
  obtain ⟨S, hX, hbl, hda, hdb, hab, hga, hgb⟩ := C
  obtain ⟨hG, hsc, hVO, hM, hC, hS⟩ := V
  have hbA : ¬ (fun q : Nat => s.heap.size ≤ q) b0 := Nat.not_le.mpr hbl
  refine lv_aload_n S.1 S.2.1 dL_law_648 rfl (lv_at hl 1 rfl) ?_
  refine la_arg (k := 1) (z := 1) S hX hbl hbA hS hl (by omega) hLL e1 (by decide) dL_law_649 dL_law_650 dL_law_651 dL_law_652 dL_law_653 ?_
  refine la_arg (k := 2) (z := 2) S hX hbl hbA hS hl (by omega) hLL e2 (by decide) dL_law_654 dL_law_655 dL_law_656 dL_law_657 dL_law_658 ?_
  refine kX7_piece_b S hC hG hc hz tw_562 ro_1 hl.1 (Nat.le_of_ble_eq_true rfl) dL_law_659 ?_
  refine lv_aload_n S.1 S.2.1 dL_law_662 rfl (lv_at hl 2 rfl) ?_
  refine la_arg (k := 1) (z := 1) S hX hbl hbA hS hl (by omega) hLL e1 (by decide) dL_law_663 dL_law_664 dL_law_665 dL_law_666 dL_law_667 ?_
  refine la_arg (k := 2) (z := 2) S hX hbl hbA hS hl (by omega) hLL e2 (by decide) dL_law_668 dL_law_669 dL_law_670 dL_law_671 dL_law_672 ?_
  refine kX8_piece_b S hM hG hc hz tw_840 ro_1 hl.1 (Nat.le_of_ble_eq_true rfl) dL_law_673 ?_
  refine lv_icmp_eq (tgt := 717) S.1 S.2.1 dL_law_676 (by decide) (fun _ => ?_) (fun h => absurd rfl h)
  exact next _ _ ⟨_, _, _, _, _, _, _, _, _, sc, u, hG, hsc, hVO, hM, hC, hS⟩
theorem lo_piece_c {ci x : Nat} (e1 : xs (i + 1) = nI ci) (e2 : xs (i + 2) = nI x) (hc : ci < n) (hx : x < w) (ho : Nat.testBit (op ci) x = true) (C : LC p s m c b0 L xs a b) (hi : i + 4 ≤ L) (hLL : L ≤ 2048) (hl : lv_has ls 4 (lvL b0 (b 0) (a 0) i)) (V : LV D K a b s H locs w n lap op mu ba la en pr sc u) (next : ∀ (H : Heap) (locs : List Loc), LVx D K a b s H locs → W p l e room_1 s m #[Value.ref b0] below meth c H locs 600000 7302250 Q (F0 m 717 ls [])) : W p l e room_1 s m #[Value.ref b0] below meth c H locs 600000 7302250 Q (F0 m 648 ls []) := by
  obtain ⟨S, hX, hbl, hda, hdb, hab, hga, hgb⟩ := C
  obtain ⟨hG, hsc, hVO, hM, hC, hS⟩ := V
  have hbA : ¬ (fun q : Nat => s.heap.size ≤ q) b0 := Nat.not_le.mpr hbl
  refine lv_aload_n S.1 S.2.1 dL_law_648 rfl (lv_at hl 1 rfl) ?_
  refine la_arg (k := 1) (z := 1) S hX hbl hbA hS hl (by omega) hLL e1 (by decide) dL_law_649 dL_law_650 dL_law_651 dL_law_652 dL_law_653 ?_
  refine la_arg (k := 2) (z := 2) S hX hbl hbA hS hl (by omega) hLL e2 (by decide) dL_law_654 dL_law_655 dL_law_656 dL_law_657 dL_law_658 ?_
  refine kX7_piece_c S hC hG hc hx ho tw_562 ro_1 hl.1 (Nat.le_of_ble_eq_true rfl) dL_law_659 ?_
  refine lv_aload_n S.1 S.2.1 dL_law_662 rfl (lv_at hl 2 rfl) ?_
  refine la_arg (k := 1) (z := 1) S hX hbl hbA hS hl (by omega) hLL e1 (by decide) dL_law_663 dL_law_664 dL_law_665 dL_law_666 dL_law_667 ?_
  refine la_arg (k := 2) (z := 2) S hX hbl hbA hS hl (by omega) hLL e2 (by decide) dL_law_668 dL_law_669 dL_law_670 dL_law_671 dL_law_672 ?_
  refine kX8_piece_c S hM hG hc hx ho tw_840 ro_1 hl.1 (Nat.le_of_ble_eq_true rfl) dL_law_673 ?_
  refine lv_icmp_eq (tgt := 717) S.1 S.2.1 dL_law_676 (by decide) (fun _ => ?_) (fun h => absurd rfl h)
  exact next _ _ ⟨_, _, _, _, _, _, _, _, _, sc, u, hG, hsc, hVO, hM, hC, hS⟩
theorem lo_piece_d {ci x : Nat} (e1 : xs (i + 1) = nI ci) (e2 : xs (i + 2) = nI x) (hc : ci < n) (hx : x < w) (ho : Nat.testBit (op ci) x = false) (C : LC p s m c b0 L xs a b) (hi : i + 4 ≤ L) (hLL : L ≤ 2048) (hl : lv_has ls 4 (lvL b0 (b 0) (a 0) i)) (V : LV D K a b s H locs w n lap op mu ba la en pr sc u) (next : ∀ (H : Heap) (locs : List Loc), LVx D K a b s H locs → W p l e room_1 s m #[Value.ref b0] below meth c H locs 600000 7302250 Q (F0 m 717 ls [])) : W p l e room_1 s m #[Value.ref b0] below meth c H locs 600000 7302250 Q (F0 m 648 ls []) := by
  obtain ⟨S, hX, hbl, hda, hdb, hab, hga, hgb⟩ := C
  obtain ⟨hG, hsc, hVO, hM, hC, hS⟩ := V
  have hbA : ¬ (fun q : Nat => s.heap.size ≤ q) b0 := Nat.not_le.mpr hbl
  refine lv_aload_n S.1 S.2.1 dL_law_648 rfl (lv_at hl 1 rfl) ?_
  refine la_arg (k := 1) (z := 1) S hX hbl hbA hS hl (by omega) hLL e1 (by decide) dL_law_649 dL_law_650 dL_law_651 dL_law_652 dL_law_653 ?_
  refine la_arg (k := 2) (z := 2) S hX hbl hbA hS hl (by omega) hLL e2 (by decide) dL_law_654 dL_law_655 dL_law_656 dL_law_657 dL_law_658 ?_
  refine kX7_piece_d S hC hG hc hx ho tw_562 ro_1 hl.1 (Nat.le_of_ble_eq_true rfl) dL_law_659 ?_
  refine lv_aload_n S.1 S.2.1 dL_law_662 rfl (lv_at hl 2 rfl) ?_
  refine la_arg (k := 1) (z := 1) S hX hbl hbA hS hl (by omega) hLL e1 (by decide) dL_law_663 dL_law_664 dL_law_665 dL_law_666 dL_law_667 ?_
  refine la_arg (k := 2) (z := 2) S hX hbl hbA hS hl (by omega) hLL e2 (by decide) dL_law_668 dL_law_669 dL_law_670 dL_law_671 dL_law_672 ?_
  refine kX8_piece_d S hM hG hc hx ho tw_840 ro_1 hl.1 (Nat.le_of_ble_eq_true rfl) dL_law_673 ?_
  refine lv_icmp_eq (tgt := 717) S.1 S.2.1 dL_law_676 (by decide) (fun _ => ?_) (fun h => absurd rfl h)
  exact next _ _ ⟨_, _, _, _, _, _, _, _, _, sc, u, hG, hsc, hVO, hM, hC, hS⟩
theorem lo_cut  (C : LC p s m c b0 L xs a b) (hi : i + 4 ≤ L) (hLL : L ≤ 2048) (hl : lv_has ls 4 (lvL b0 (b 0) (a 0) i)) (V : LV D K a b s H locs w n lap op mu ba la en pr sc u) (next : ∀ (H : Heap) (locs : List Loc), LVx D K a b s H locs → W p l e room_1 s m #[Value.ref b0] below meth c H locs 600000 7302250 Q (F0 m 717 ls [])) : W p l e room_1 s m #[Value.ref b0] below meth c H locs 600000 7302250 Q (F0 m 681 ls []) := by
  obtain ⟨S, hX, hbl, hda, hdb, hab, hga, hgb⟩ := C
  obtain ⟨hG, hsc, hVO, hM, hC, hS⟩ := V
  have hbA : ¬ (fun q : Nat => s.heap.size ≤ q) b0 := Nat.not_le.mpr hbl
  refine lv_aload_n S.1 S.2.1 dL_law_681 rfl (lv_at hl 1 rfl) ?_
  refine qX7_cut S hC (fun q hq => adA_ge hgb hq) hS hdb hG hVO  tw_571 ro_1 hl.1 (Nat.le_of_ble_eq_true rfl) dL_law_682 (fun u1 H1 locs1 hu1 hC hS hzz hkp => ?_)
  have hM := PI_kp hM (mW_ad fun i h1 j h2 e => hab i j h1 h2 e) hkp
  refine lv_aload_n S.1 S.2.1 dL_law_685 rfl (lv_at hl 2 rfl) ?_
  refine kX8_cut S hM hG  tw_844 ro_1 hl.1 (Nat.le_of_ble_eq_true rfl) dL_law_686 ?_
  refine lv_icmp_eq (tgt := 717) S.1 S.2.1 dL_law_689 (by decide) (fun _ => ?_) (fun h => absurd rfl h)
  exact next _ _ ⟨_, _, _, _, _, _, _, _, _, sc, u1, hG, hsc, hu1, hM, hC, hS⟩
theorem lo_many_b {wh : Int32} (e1 : xs (i + 1) = wh) (hw : wh.toInt < 0 ∨ 5 < wh.toInt) (C : LC p s m c b0 L xs a b) (hi : i + 4 ≤ L) (hLL : L ≤ 2048) (hl : lv_has ls 4 (lvL b0 (b 0) (a 0) i)) (V : LV D K a b s H locs w n lap op mu ba la en pr sc u) (next : ∀ (H : Heap) (locs : List Loc), LVx D K a b s H locs → W p l e room_1 s m #[Value.ref b0] below meth c H locs 600000 7302250 Q (F0 m 717 ls [])) : W p l e room_1 s m #[Value.ref b0] below meth c H locs 600000 7302250 Q (F0 m 694 ls []) := by
  obtain ⟨S, hX, hbl, hda, hdb, hab, hga, hgb⟩ := C
  obtain ⟨hG, hsc, hVO, hM, hC, hS⟩ := V
  have hbA : ¬ (fun q : Nat => s.heap.size ≤ q) b0 := Nat.not_le.mpr hbl
  refine lv_aload_n S.1 S.2.1 dL_law_694 rfl (lv_at hl 1 rfl) ?_
  refine la_arg (k := 1) (z := 1) S hX hbl hbA hS hl (by omega) hLL e1 (by decide) dL_law_695 dL_law_696 dL_law_697 dL_law_698 dL_law_699 ?_
  refine kX7_many_b S hC hG hw tw_583 ro_1 hl.1 (Nat.le_of_ble_eq_true rfl) dL_law_700 ?_
  refine lv_aload_n S.1 S.2.1 dL_law_703 rfl (lv_at hl 2 rfl) ?_
  refine la_arg (k := 1) (z := 1) S hX hbl hbA hS hl (by omega) hLL e1 (by decide) dL_law_704 dL_law_705 dL_law_706 dL_law_707 dL_law_708 ?_
  refine kX8_many_b S hM hG hw tw_848 ro_1 hl.1 (Nat.le_of_ble_eq_true rfl) dL_law_709 ?_
  refine lv_icmp_eq (tgt := 717) S.1 S.2.1 dL_law_712 (by decide) (fun _ => ?_) (fun h => absurd rfl h)
  exact next _ _ ⟨_, _, _, _, _, _, _, _, _, sc, u, hG, hsc, hVO, hM, hC, hS⟩
theorem lo_many_0  (e1 : xs (i + 1) = nI 0) (C : LC p s m c b0 L xs a b) (hi : i + 4 ≤ L) (hLL : L ≤ 2048) (hl : lv_has ls 4 (lvL b0 (b 0) (a 0) i)) (V : LV D K a b s H locs w n lap op mu ba la en pr sc u) (next : ∀ (H : Heap) (locs : List Loc), LVx D K a b s H locs → W p l e room_1 s m #[Value.ref b0] below meth c H locs 600000 7302250 Q (F0 m 717 ls [])) : W p l e room_1 s m #[Value.ref b0] below meth c H locs 600000 7302250 Q (F0 m 694 ls []) := by
  obtain ⟨S, hX, hbl, hda, hdb, hab, hga, hgb⟩ := C
  obtain ⟨hG, hsc, hVO, hM, hC, hS⟩ := V
  have hbA : ¬ (fun q : Nat => s.heap.size ≤ q) b0 := Nat.not_le.mpr hbl
  refine lv_aload_n S.1 S.2.1 dL_law_694 rfl (lv_at hl 1 rfl) ?_
  refine la_arg (k := 1) (z := 1) S hX hbl hbA hS hl (by omega) hLL e1 (by decide) dL_law_695 dL_law_696 dL_law_697 dL_law_698 dL_law_699 ?_
  refine kX7_many_0 S hC hG  tw_583 ro_1 hl.1 (Nat.le_of_ble_eq_true rfl) dL_law_700 ?_
  refine lv_aload_n S.1 S.2.1 dL_law_703 rfl (lv_at hl 2 rfl) ?_
  refine la_arg (k := 1) (z := 1) S hX hbl hbA hS hl (by omega) hLL e1 (by decide) dL_law_704 dL_law_705 dL_law_706 dL_law_707 dL_law_708 ?_
  refine kX8_many_0 S hM hG  tw_848 ro_1 hl.1 (Nat.le_of_ble_eq_true rfl) dL_law_709 ?_
  refine lv_icmp_eq (tgt := 717) S.1 S.2.1 dL_law_712 (by decide) (fun _ => ?_) (fun h => absurd rfl h)
  exact next _ _ ⟨_, _, _, _, _, _, _, _, _, sc, u, hG, hsc, hVO, hM, hC, hS⟩
theorem lo_many_1  (e1 : xs (i + 1) = nI 1) (C : LC p s m c b0 L xs a b) (hi : i + 4 ≤ L) (hLL : L ≤ 2048) (hl : lv_has ls 4 (lvL b0 (b 0) (a 0) i)) (V : LV D K a b s H locs w n lap op mu ba la en pr sc u) (next : ∀ (H : Heap) (locs : List Loc), LVx D K a b s H locs → W p l e room_1 s m #[Value.ref b0] below meth c H locs 600000 7302250 Q (F0 m 717 ls [])) : W p l e room_1 s m #[Value.ref b0] below meth c H locs 600000 7302250 Q (F0 m 694 ls []) := by
  obtain ⟨S, hX, hbl, hda, hdb, hab, hga, hgb⟩ := C
  obtain ⟨hG, hsc, hVO, hM, hC, hS⟩ := V
  have hbA : ¬ (fun q : Nat => s.heap.size ≤ q) b0 := Nat.not_le.mpr hbl
  refine lv_aload_n S.1 S.2.1 dL_law_694 rfl (lv_at hl 1 rfl) ?_
  refine la_arg (k := 1) (z := 1) S hX hbl hbA hS hl (by omega) hLL e1 (by decide) dL_law_695 dL_law_696 dL_law_697 dL_law_698 dL_law_699 ?_
  refine kX7_many_1 S hC hG  tw_583 ro_1 hl.1 (Nat.le_of_ble_eq_true rfl) dL_law_700 ?_
  refine lv_aload_n S.1 S.2.1 dL_law_703 rfl (lv_at hl 2 rfl) ?_
  refine la_arg (k := 1) (z := 1) S hX hbl hbA hS hl (by omega) hLL e1 (by decide) dL_law_704 dL_law_705 dL_law_706 dL_law_707 dL_law_708 ?_
  refine kX8_many_1 S hM hG  tw_848 ro_1 hl.1 (Nat.le_of_ble_eq_true rfl) dL_law_709 ?_
  refine lv_icmp_eq (tgt := 717) S.1 S.2.1 dL_law_712 (by decide) (fun _ => ?_) (fun h => absurd rfl h)
  exact next _ _ ⟨_, _, _, _, _, _, _, _, _, sc, u, hG, hsc, hVO, hM, hC, hS⟩
theorem lo_many_2  (e1 : xs (i + 1) = nI 2) (C : LC p s m c b0 L xs a b) (hi : i + 4 ≤ L) (hLL : L ≤ 2048) (hl : lv_has ls 4 (lvL b0 (b 0) (a 0) i)) (V : LV D K a b s H locs w n lap op mu ba la en pr sc u) (next : ∀ (H : Heap) (locs : List Loc), LVx D K a b s H locs → W p l e room_1 s m #[Value.ref b0] below meth c H locs 600000 7302250 Q (F0 m 717 ls [])) : W p l e room_1 s m #[Value.ref b0] below meth c H locs 600000 7302250 Q (F0 m 694 ls []) := by
  obtain ⟨S, hX, hbl, hda, hdb, hab, hga, hgb⟩ := C
  obtain ⟨hG, hsc, hVO, hM, hC, hS⟩ := V
  have hbA : ¬ (fun q : Nat => s.heap.size ≤ q) b0 := Nat.not_le.mpr hbl
  refine lv_aload_n S.1 S.2.1 dL_law_694 rfl (lv_at hl 1 rfl) ?_
  refine la_arg (k := 1) (z := 1) S hX hbl hbA hS hl (by omega) hLL e1 (by decide) dL_law_695 dL_law_696 dL_law_697 dL_law_698 dL_law_699 ?_
  refine kX7_many_2 S hC hG  tw_583 ro_1 hl.1 (Nat.le_of_ble_eq_true rfl) dL_law_700 ?_
  refine lv_aload_n S.1 S.2.1 dL_law_703 rfl (lv_at hl 2 rfl) ?_
  refine la_arg (k := 1) (z := 1) S hX hbl hbA hS hl (by omega) hLL e1 (by decide) dL_law_704 dL_law_705 dL_law_706 dL_law_707 dL_law_708 ?_
  refine kX8_many_2 S hM hG  tw_848 ro_1 hl.1 (Nat.le_of_ble_eq_true rfl) dL_law_709 ?_
  refine lv_icmp_eq (tgt := 717) S.1 S.2.1 dL_law_712 (by decide) (fun _ => ?_) (fun h => absurd rfl h)
  exact next _ _ ⟨_, _, _, _, _, _, _, _, _, sc, u, hG, hsc, hVO, hM, hC, hS⟩
theorem lo_many_3  (e1 : xs (i + 1) = nI 3) (C : LC p s m c b0 L xs a b) (hi : i + 4 ≤ L) (hLL : L ≤ 2048) (hl : lv_has ls 4 (lvL b0 (b 0) (a 0) i)) (V : LV D K a b s H locs w n lap op mu ba la en pr sc u) (next : ∀ (H : Heap) (locs : List Loc), LVx D K a b s H locs → W p l e room_1 s m #[Value.ref b0] below meth c H locs 600000 7302250 Q (F0 m 717 ls [])) : W p l e room_1 s m #[Value.ref b0] below meth c H locs 600000 7302250 Q (F0 m 694 ls []) := by
  obtain ⟨S, hX, hbl, hda, hdb, hab, hga, hgb⟩ := C
  obtain ⟨hG, hsc, hVO, hM, hC, hS⟩ := V
  have hbA : ¬ (fun q : Nat => s.heap.size ≤ q) b0 := Nat.not_le.mpr hbl
  refine lv_aload_n S.1 S.2.1 dL_law_694 rfl (lv_at hl 1 rfl) ?_
  refine la_arg (k := 1) (z := 1) S hX hbl hbA hS hl (by omega) hLL e1 (by decide) dL_law_695 dL_law_696 dL_law_697 dL_law_698 dL_law_699 ?_
  refine kX7_many_3 S hC hG  tw_583 ro_1 hl.1 (Nat.le_of_ble_eq_true rfl) dL_law_700 ?_
  refine lv_aload_n S.1 S.2.1 dL_law_703 rfl (lv_at hl 2 rfl) ?_
  refine la_arg (k := 1) (z := 1) S hX hbl hbA hS hl (by omega) hLL e1 (by decide) dL_law_704 dL_law_705 dL_law_706 dL_law_707 dL_law_708 ?_
  refine kX8_many_3 S hM hG  tw_848 ro_1 hl.1 (Nat.le_of_ble_eq_true rfl) dL_law_709 ?_
  refine lv_icmp_eq (tgt := 717) S.1 S.2.1 dL_law_712 (by decide) (fun _ => ?_) (fun h => absurd rfl h)
  exact next _ _ ⟨_, _, _, _, _, _, _, _, _, sc, u, hG, hsc, hVO, hM, hC, hS⟩
theorem lo_many_4  (e1 : xs (i + 1) = nI 4) (C : LC p s m c b0 L xs a b) (hi : i + 4 ≤ L) (hLL : L ≤ 2048) (hl : lv_has ls 4 (lvL b0 (b 0) (a 0) i)) (V : LV D K a b s H locs w n lap op mu ba la en pr sc u) (next : ∀ (H : Heap) (locs : List Loc), LVx D K a b s H locs → W p l e room_1 s m #[Value.ref b0] below meth c H locs 600000 7302250 Q (F0 m 717 ls [])) : W p l e room_1 s m #[Value.ref b0] below meth c H locs 600000 7302250 Q (F0 m 694 ls []) := by
  obtain ⟨S, hX, hbl, hda, hdb, hab, hga, hgb⟩ := C
  obtain ⟨hG, hsc, hVO, hM, hC, hS⟩ := V
  have hbA : ¬ (fun q : Nat => s.heap.size ≤ q) b0 := Nat.not_le.mpr hbl
  refine lv_aload_n S.1 S.2.1 dL_law_694 rfl (lv_at hl 1 rfl) ?_
  refine la_arg (k := 1) (z := 1) S hX hbl hbA hS hl (by omega) hLL e1 (by decide) dL_law_695 dL_law_696 dL_law_697 dL_law_698 dL_law_699 ?_
  refine qX7_many_4 S hC (fun q hq => adA_ge hgb hq) hS hdb hG hVO  tw_583 ro_1 hl.1 (Nat.le_of_ble_eq_true rfl) dL_law_700 (fun u1 H1 locs1 hu1 hC hS hzz hkp => ?_)
  have hM := PI_kp hM (mW_ad fun i h1 j h2 e => hab i j h1 h2 e) hkp
  refine lv_aload_n S.1 S.2.1 dL_law_703 rfl (lv_at hl 2 rfl) ?_
  refine la_arg (k := 1) (z := 1) S hX hbl hbA hS hl (by omega) hLL e1 (by decide) dL_law_704 dL_law_705 dL_law_706 dL_law_707 dL_law_708 ?_
  refine kX8_many_4 S hM hG  tw_848 ro_1 hl.1 (Nat.le_of_ble_eq_true rfl) dL_law_709 ?_
  refine lv_icmp_eq (tgt := 717) S.1 S.2.1 dL_law_712 (by decide) (fun _ => ?_) (fun h => absurd rfl h)
  exact next _ _ ⟨_, _, _, _, _, _, _, _, _, sc, u1, hG, hsc, hu1, hM, hC, hS⟩
theorem lo_many_5  (e1 : xs (i + 1) = nI 5) (C : LC p s m c b0 L xs a b) (hi : i + 4 ≤ L) (hLL : L ≤ 2048) (hl : lv_has ls 4 (lvL b0 (b 0) (a 0) i)) (V : LV D K a b s H locs w n lap op mu ba la en pr sc u) (next : ∀ (H : Heap) (locs : List Loc), LVx D K a b s H locs → W p l e room_1 s m #[Value.ref b0] below meth c H locs 600000 7302250 Q (F0 m 717 ls [])) : W p l e room_1 s m #[Value.ref b0] below meth c H locs 600000 7302250 Q (F0 m 694 ls []) := by
  obtain ⟨S, hX, hbl, hda, hdb, hab, hga, hgb⟩ := C
  obtain ⟨hG, hsc, hVO, hM, hC, hS⟩ := V
  have hbA : ¬ (fun q : Nat => s.heap.size ≤ q) b0 := Nat.not_le.mpr hbl
  refine lv_aload_n S.1 S.2.1 dL_law_694 rfl (lv_at hl 1 rfl) ?_
  refine la_arg (k := 1) (z := 1) S hX hbl hbA hS hl (by omega) hLL e1 (by decide) dL_law_695 dL_law_696 dL_law_697 dL_law_698 dL_law_699 ?_
  refine kX7_many_5 S hC hG  tw_583 ro_1 hl.1 (Nat.le_of_ble_eq_true rfl) dL_law_700 ?_
  refine lv_aload_n S.1 S.2.1 dL_law_703 rfl (lv_at hl 2 rfl) ?_
  refine la_arg (k := 1) (z := 1) S hX hbl hbA hS hl (by omega) hLL e1 (by decide) dL_law_704 dL_law_705 dL_law_706 dL_law_707 dL_law_708 ?_
  refine kX8_many_5 S hM hG  tw_848 ro_1 hl.1 (Nat.le_of_ble_eq_true rfl) dL_law_709 ?_
  refine lv_icmp_eq (tgt := 717) S.1 S.2.1 dL_law_712 (by decide) (fun _ => ?_) (fun h => absurd rfl h)
  exact next _ _ ⟨_, _, _, _, _, _, _, _, _, sc, u, hG, hsc, hVO, hM, hC, hS⟩
end LO
