/-! the law: its calls whatever the script says, its loop -/
theorem i32_nn {v : Int32} (h : 0 ≤ v.toInt) : v = nI v.toInt.toNat := by
  have h2 := v.toInt_lt
  have h3 : v.toInt.toNat < 2 ^ 31 := by omega
  rw [← Int32.toInt_inj, nI_toInt h3]
  omega
theorem wiI_tt {v z0 z1 : Int32} (h : ¬ wiI v z0 z1 = false) : z0.toInt ≤ v.toInt ∧ v.toInt ≤ z1.toInt := by
  unfold wiI at h
  by_cases a1 : z0 ≤ v
  · by_cases a2 : v ≤ z1
    · exact ⟨Int32.le_iff_toInt_le.mp a1, Int32.le_iff_toInt_le.mp a2⟩
    · exact absurd (by simp [a2]) h
  · exact absurd (by simp [a1]) h
theorem cz_wi (v : Int32) (x y : Nat) (hx : x < 2 ^ 31) (hy : y < 2 ^ 31) : wiI v (nI x) (nI y) = false ∨ ∃ k, v = nI k ∧ x ≤ k ∧ k ≤ y := by
  by_cases h : wiI v (nI x) (nI y) = false
  · exact Or.inl h
  · obtain ⟨h1, h2⟩ := wiI_tt h
    rw [nI_toInt hx] at h1
    rw [nI_toInt hy] at h2
    exact Or.inr ⟨_, i32_nn (by omega), by omega, by omega⟩
theorem cz_un (v : Int32) {n : Nat} (hn : n ≤ 8) : wiI v 0 (nI n - 1) = false ∨ ∃ ci, v = nI ci ∧ ci < n := by
  rcases Nat.eq_zero_or_pos n with h0 | h0
  · subst h0
    left
    by_cases h : wiI v 0 (nI 0 - 1) = false
    · exact h
    · obtain ⟨h1, h2⟩ := wiI_tt h
      have e1 : (0 : Int32).toInt = 0 := by decide
      have e2 : (nI 0 - 1).toInt = -1 := by decide
      rw [e1] at h1
      rw [e2] at h2
      omega
  · have e : nI n - 1 = nI (n - 1) := by
      have : n = (n - 1) + 1 := by omega
      rw [this, nI_pred]; rfl
    rw [e, ← nI_0]
    rcases cz_wi v 0 (n - 1) (by decide) (by omega) with h | ⟨k, h1, h2, h3⟩
    · exact Or.inl h
    · exact Or.inr ⟨k, h1, by omega⟩
theorem cz_pl (z : Int32) {w : Nat} (hw : w ≤ 10) : plI w z = false ∨ ∃ k, z = nI k ∧ k < 2 ^ w ∧ k % 2 = 0 := by
  have hp := p2_le hw
  have h0 : 0 < 2 ^ w := Nat.two_pow_pos w
  rcases cz_wi z 0 (2 ^ w - 1) (by decide) (by omega) with h | ⟨k, rfl, h2, h3⟩
  · left; unfold plI; rw [h]; rfl
  · by_cases h : k % 2 = 0
    · exact Or.inr ⟨k, rfl, by omega, h⟩
    · left
      unfold plI
      rw [nI_rem (by omega) (by decide) (by decide), show k % 2 = 1 by omega]
      simp
      intro _
      decide
theorem cz_pr (v : Int32) : (decide (v = -9) || wiI v (nI 0) (nI 99)) = false ∨ ∃ q : Option Nat, v = pI q ∧ ∀ k, q = some k → k ≤ 99 := by
  by_cases h9 : v = -9
  · exact Or.inr ⟨none, h9, fun k h => by cases h⟩
  · rcases cz_wi v 0 99 (by decide) (by decide) with h | ⟨k, h1, h2, h3⟩
    · left; rw [h]; simp [h9]
    · exact Or.inr ⟨some k, h1, fun k' h => by cases h; exact h3⟩
theorem cz_row (z : Int32) : wiI z (-1) (nI 511) = false ∨ z = -1 ∨ ∃ k, z = nI k ∧ k ≤ 511 := by
  by_cases h : wiI z (-1) (nI 511) = false
  · exact Or.inl h
  · obtain ⟨h1, h2⟩ := wiI_tt h
    have e1 : (-1 : Int32).toInt = -1 := by decide
    rw [e1] at h1
    rw [nI_toInt (by decide)] at h2
    by_cases h0 : 0 ≤ z.toInt
    · exact Or.inr (Or.inr ⟨_, i32_nn h0, by omega⟩)
    · right; left
      rw [← Int32.toInt_inj, e1]
      omega
theorem cz_sw (z : Int32) (N : Nat) : (z.toInt < 0 ∨ (N : Int) < z.toInt) ∨ ∃ k, z = nI k ∧ k ≤ N := by
  by_cases h0 : 0 ≤ z.toInt
  · by_cases h1 : (N : Int) < z.toInt
    · exact Or.inl (Or.inr h1)
    · exact Or.inr ⟨_, i32_nn h0, by omega⟩
  · exact Or.inl (Or.inl (by omega))
theorem cz_en (od sd z : Int32) : (wiI od (nI 0) (nI 1) && wiI sd (nI 0) (nI 1) && wiI z (nI 0) (nI 126) && !decide (z - z / nI 2 * nI 2 = nI 1)) = false ∨ ∃ o1 s1 k, od = nI o1 ∧ sd = nI s1 ∧ z = nI k ∧ o1 ≤ 1 ∧ s1 ≤ 1 ∧ k ≤ 126 ∧ k % 2 = 0 := by
  rcases cz_wi od 0 1 (by decide) (by decide) with h | ⟨o1, rfl, -, ho⟩
  · left; rw [h]; simp
  rcases cz_wi sd 0 1 (by decide) (by decide) with h | ⟨s1, rfl, -, hs⟩
  · left; rw [h]; simp
  rcases cz_wi z 0 126 (by decide) (by decide) with h | ⟨k, rfl, -, hk⟩
  · left; rw [h]; simp
  by_cases h : k % 2 = 0
  · exact Or.inr ⟨o1, s1, k, rfl, rfl, rfl, ho, hs, hk, h⟩
  · left
    rw [nI_rem (by omega) (by decide) (by decide), show k % 2 = 1 by omega]
    simp
theorem cz_must (hw z : Int32) {w : Nat} (hw0 : w ≤ 10) : (wiI hw (nI 0) (nI 1) && plI w z) = false ∨ ∃ k, (hw = nI 1 ∨ hw = nI 0) ∧ z = nI k ∧ k < 2 ^ w ∧ k % 2 = 0 := by
  rcases cz_wi hw 0 1 (by decide) (by decide) with h | ⟨o1, h1, -, ho⟩
  · left; rw [h]; simp
  rcases cz_pl z hw0 with h | ⟨k, h2, h3, h4⟩
  · left; rw [h]; simp
  refine Or.inr ⟨k, ?_, h2, h3, h4⟩
  rcases (show o1 = 1 ∨ o1 = 0 by omega) with rfl | rfl
  · exact Or.inl h1
  · exact Or.inr h1
theorem cz_price (le v : Int32) : (wiI le (nI 1) (nI 6) && (decide (v = -9) || wiI v (nI 0) (nI 99))) = false ∨ ∃ L0 q, le = nI L0 ∧ 1 ≤ L0 ∧ L0 ≤ 6 ∧ v = pI q ∧ ∀ k, q = some k → k ≤ 99 := by
  rcases cz_wi le 1 6 (by decide) (by decide) with h | ⟨L0, h1, h2, h3⟩
  · left; rw [h]; simp
  rcases cz_pr v with h | ⟨q, h4, h5⟩
  · left; rw [h]; simp
  exact Or.inr ⟨L0, q, h1, h2, h3, h4, h5⟩
section LP
variable {p : Program} {l : Launch} {e : Env} {s : State} {m : MethodId} {below : List Frame} {meth : Method} {c : Code} {H : Heap} {locs : List Loc} {Q : State → Prop} {ls : Array Slot}
variable {b0 L : Nat} {xs : Nat → Int32} {D : va_G} {K : Nat → ClassId} {a b : Nat → Nat} {i : Nat} {w n lap : Nat} {op mu ba la en : Nat → Nat} {pr : Nat → Option Nat} {sc : MSc} {u : CSc}
theorem lp_width (C : LC p s m c b0 L xs a b) (hi : i + 4 ≤ L) (hLL : L ≤ 2048) (hl : lv_has ls 4 (lvL b0 (b 0) (a 0) i)) (V : LV D K a b s H locs w n lap op mu ba la en pr sc u) (next : ∀ (H : Heap) (locs : List Loc), LVx D K a b s H locs → W p l e room_1 s m #[Value.ref b0] below meth c H locs 600000 7302250 Q (F0 m 717 ls [])) : W p l e room_1 s m #[Value.ref b0] below meth c H locs 600000 7302250 Q (F0 m 144 ls []) := by
  have hw2 : w ≤ 10 := V.1.2.1
  have hn8 : n ≤ 8 := V.1.2.2.1
  rcases cz_wi (xs (i + 1)) 2 10 (by decide) (by decide) with h | ⟨k, h1, h2, h3⟩
  · exact lo_width_a rfl h C hi hLL hl V next
  · exact lo_width_b h1 h2 h3 C hi hLL hl V next
theorem lp_course (C : LC p s m c b0 L xs a b) (hi : i + 4 ≤ L) (hLL : L ≤ 2048) (hl : lv_has ls 4 (lvL b0 (b 0) (a 0) i)) (V : LV D K a b s H locs w n lap op mu ba la en pr sc u) (next : ∀ (H : Heap) (locs : List Loc), LVx D K a b s H locs → W p l e room_1 s m #[Value.ref b0] below meth c H locs 600000 7302250 Q (F0 m 717 ls [])) : W p l e room_1 s m #[Value.ref b0] below meth c H locs 600000 7302250 Q (F0 m 167 ls []) := by
  have hw2 : w ≤ 10 := V.1.2.1
  have hn8 : n ≤ 8 := V.1.2.2.1
  rcases (show n = 8 ∨ n < 8 by omega) with h | h
  · exact lo_course_a h C hi hLL hl V next
  · exact lo_course_b h C hi hLL hl V next
theorem lp_take (C : LC p s m c b0 L xs a b) (hi : i + 4 ≤ L) (hLL : L ≤ 2048) (hl : lv_has ls 4 (lvL b0 (b 0) (a 0) i)) (V : LV D K a b s H locs w n lap op mu ba la en pr sc u) (next : ∀ (H : Heap) (locs : List Loc), LVx D K a b s H locs → W p l e room_1 s m #[Value.ref b0] below meth c H locs 600000 7302250 Q (F0 m 717 ls [])) : W p l e room_1 s m #[Value.ref b0] below meth c H locs 600000 7302250 Q (F0 m 180 ls []) := by
  have hw2 : w ≤ 10 := V.1.2.1
  have hn8 : n ≤ 8 := V.1.2.2.1
  rcases (show n = 0 ∨ 1 ≤ n by omega) with h | h
  · exact lo_take_a h C hi hLL hl V next
  · exact lo_take_b h C hi hLL hl V next
theorem lp_open (C : LC p s m c b0 L xs a b) (hi : i + 4 ≤ L) (hLL : L ≤ 2048) (hl : lv_has ls 4 (lvL b0 (b 0) (a 0) i)) (V : LV D K a b s H locs w n lap op mu ba la en pr sc u) (next : ∀ (H : Heap) (locs : List Loc), LVx D K a b s H locs → W p l e room_1 s m #[Value.ref b0] below meth c H locs 600000 7302250 Q (F0 m 717 ls [])) : W p l e room_1 s m #[Value.ref b0] below meth c H locs 600000 7302250 Q (F0 m 193 ls []) := by
  have hw2 : w ≤ 10 := V.1.2.1
  have hn8 : n ≤ 8 := V.1.2.2.1
  rcases cz_un (xs (i + 1)) hn8 with h | ⟨ci, e1, hc⟩
  · exact lo_open_a rfl rfl h C hi hLL hl V next
  have hp := p2_le hw2
  have hp0 : 0 < 2 ^ w := Nat.two_pow_pos w
  rcases cz_wi (xs (i + 2)) 0 (2 ^ w - 1) (by decide) (by omega) with h | ⟨k, e2, h2, h3⟩
  · exact lo_open_b e1 rfl hc h C hi hLL hl V next
  · exact lo_open_c e1 e2 hc (by omega) C hi hLL hl V next
theorem lp_must (C : LC p s m c b0 L xs a b) (hi : i + 4 ≤ L) (hLL : L ≤ 2048) (hl : lv_has ls 4 (lvL b0 (b 0) (a 0) i)) (V : LV D K a b s H locs w n lap op mu ba la en pr sc u) (next : ∀ (H : Heap) (locs : List Loc), LVx D K a b s H locs → W p l e room_1 s m #[Value.ref b0] below meth c H locs 600000 7302250 Q (F0 m 717 ls [])) : W p l e room_1 s m #[Value.ref b0] below meth c H locs 600000 7302250 Q (F0 m 226 ls []) := by
  have hw2 : w ≤ 10 := V.1.2.1
  have hn8 : n ≤ 8 := V.1.2.2.1
  rcases cz_un (xs (i + 1)) hn8 with h | ⟨ci, e1, hc⟩
  · exact lo_must_a rfl rfl rfl h C hi hLL hl V next
  rcases cz_must (xs (i + 2)) (xs (i + 3)) hw2 with h | ⟨k, e2 | e2, e3, h2, h3⟩
  · exact lo_must_b e1 rfl rfl hc h C hi hLL hl V next
  · exact lo_must_c1 e1 e2 e3 hc h2 h3 C hi hLL hl V next
  · exact lo_must_c0 e1 e2 e3 hc h2 h3 C hi hLL hl V next
theorem lp_price (C : LC p s m c b0 L xs a b) (hi : i + 4 ≤ L) (hLL : L ≤ 2048) (hl : lv_has ls 4 (lvL b0 (b 0) (a 0) i)) (V : LV D K a b s H locs w n lap op mu ba la en pr sc u) (next : ∀ (H : Heap) (locs : List Loc), LVx D K a b s H locs → W p l e room_1 s m #[Value.ref b0] below meth c H locs 600000 7302250 Q (F0 m 717 ls [])) : W p l e room_1 s m #[Value.ref b0] below meth c H locs 600000 7302250 Q (F0 m 269 ls []) := by
  have hw2 : w ≤ 10 := V.1.2.1
  have hn8 : n ≤ 8 := V.1.2.2.1
  rcases cz_price (xs (i + 1)) (xs (i + 2)) with h | ⟨L0, q, e1, h1, h2, e2, h3⟩
  · exact lo_price_a rfl rfl h C hi hLL hl V next
  · exact lo_price_b e1 e2 h1 h2 h3 C hi hLL hl V next
theorem lp_lap (C : LC p s m c b0 L xs a b) (hi : i + 4 ≤ L) (hLL : L ≤ 2048) (hl : lv_has ls 4 (lvL b0 (b 0) (a 0) i)) (V : LV D K a b s H locs w n lap op mu ba la en pr sc u) (next : ∀ (H : Heap) (locs : List Loc), LVx D K a b s H locs → W p l e room_1 s m #[Value.ref b0] below meth c H locs 600000 7302250 Q (F0 m 717 ls [])) : W p l e room_1 s m #[Value.ref b0] below meth c H locs 600000 7302250 Q (F0 m 302 ls []) := by
  have hw2 : w ≤ 10 := V.1.2.1
  have hn8 : n ≤ 8 := V.1.2.2.1
  rcases cz_wi (xs (i + 1)) 1 3 (by decide) (by decide) with h | ⟨k, h1, h2, h3⟩
  · exact lo_lap_a rfl h C hi hLL hl V next
  · exact lo_lap_b h1 h2 h3 C hi hLL hl V next
theorem lp_ends (C : LC p s m c b0 L xs a b) (hi : i + 4 ≤ L) (hLL : L ≤ 2048) (hl : lv_has ls 4 (lvL b0 (b 0) (a 0) i)) (V : LV D K a b s H locs w n lap op mu ba la en pr sc u) (next : ∀ (H : Heap) (locs : List Loc), LVx D K a b s H locs → W p l e room_1 s m #[Value.ref b0] below meth c H locs 600000 7302250 Q (F0 m 717 ls [])) : W p l e room_1 s m #[Value.ref b0] below meth c H locs 600000 7302250 Q (F0 m 325 ls []) := by
  have hw2 : w ≤ 10 := V.1.2.1
  have hn8 : n ≤ 8 := V.1.2.2.1
  rcases cz_en (xs (i + 1)) (xs (i + 2)) (xs (i + 3)) with h | ⟨o1, s1, k, e1, e2, e3, h1, h2, h3, h4⟩
  · exact lo_ends_a rfl rfl rfl h C hi hLL hl V next
  · exact lo_ends_b e1 e2 e3 h1 h2 h3 h4 C hi hLL hl V next
theorem lp_ofCourse (C : LC p s m c b0 L xs a b) (hi : i + 4 ≤ L) (hLL : L ≤ 2048) (hl : lv_has ls 4 (lvL b0 (b 0) (a 0) i)) (V : LV D K a b s H locs w n lap op mu ba la en pr sc u) (next : ∀ (H : Heap) (locs : List Loc), LVx D K a b s H locs → W p l e room_1 s m #[Value.ref b0] below meth c H locs 600000 7302250 Q (F0 m 717 ls [])) : W p l e room_1 s m #[Value.ref b0] below meth c H locs 600000 7302250 Q (F0 m 368 ls []) := by
  have hw2 : w ≤ 10 := V.1.2.1
  have hn8 : n ≤ 8 := V.1.2.2.1
  rcases cz_un (xs (i + 1)) hn8 with h | ⟨ci, e1, hc⟩
  · exact lo_ofCourse_a rfl rfl h C hi hLL hl V next
  rcases cz_sw (xs (i + 2)) 4 with h | ⟨k, e2, hk⟩
  · exact lo_ofCourse_b e1 rfl hc h C hi hLL hl V next
  · rcases (show k = 0 ∨ k = 1 ∨ k = 2 ∨ k = 3 ∨ k = 4 by omega) with rfl | rfl | rfl | rfl | rfl
    · exact lo_ofCourse_0 e1 e2 hc C hi hLL hl V next
    · exact lo_ofCourse_1 e1 e2 hc C hi hLL hl V next
    · exact lo_ofCourse_2 e1 e2 hc C hi hLL hl V next
    · exact lo_ofCourse_3 e1 e2 hc C hi hLL hl V next
    · exact lo_ofCourse_4 e1 e2 hc C hi hLL hl V next
theorem lp_row (C : LC p s m c b0 L xs a b) (hi : i + 4 ≤ L) (hLL : L ≤ 2048) (hl : lv_has ls 4 (lvL b0 (b 0) (a 0) i)) (V : LV D K a b s H locs w n lap op mu ba la en pr sc u) (next : ∀ (H : Heap) (locs : List Loc), LVx D K a b s H locs → W p l e room_1 s m #[Value.ref b0] below meth c H locs 600000 7302250 Q (F0 m 717 ls [])) : W p l e room_1 s m #[Value.ref b0] below meth c H locs 600000 7302250 Q (F0 m 401 ls []) := by
  have hw2 : w ≤ 10 := V.1.2.1
  have hn8 : n ≤ 8 := V.1.2.2.1
  rcases cz_un (xs (i + 1)) hn8 with h | ⟨ci, e1, hc⟩
  · exact lo_row_a rfl rfl h C hi hLL hl V next
  rcases cz_row (xs (i + 2)) with h | e2 | ⟨k, e2, hk⟩
  · exact lo_row_b e1 rfl hc h C hi hLL hl V next
  · exact lo_row_c e1 e2 hc C hi hLL hl V next
  · exact lo_row_d e1 e2 hc hk C hi hLL hl V next
theorem lp_walls (C : LC p s m c b0 L xs a b) (hi : i + 4 ≤ L) (hLL : L ≤ 2048) (hl : lv_has ls 4 (lvL b0 (b 0) (a 0) i)) (V : LV D K a b s H locs w n lap op mu ba la en pr sc u) (next : ∀ (H : Heap) (locs : List Loc), LVx D K a b s H locs → W p l e room_1 s m #[Value.ref b0] below meth c H locs 600000 7302250 Q (F0 m 717 ls [])) : W p l e room_1 s m #[Value.ref b0] below meth c H locs 600000 7302250 Q (F0 m 434 ls []) := by
  have hw2 : w ≤ 10 := V.1.2.1
  have hn8 : n ≤ 8 := V.1.2.2.1
  exact lo_walls C hi hLL hl V next
theorem lp_best (C : LC p s m c b0 L xs a b) (hi : i + 4 ≤ L) (hLL : L ≤ 2048) (hl : lv_has ls 4 (lvL b0 (b 0) (a 0) i)) (V : LV D K a b s H locs w n lap op mu ba la en pr sc u) (next : ∀ (H : Heap) (locs : List Loc), LVx D K a b s H locs → W p l e room_1 s m #[Value.ref b0] below meth c H locs 600000 7302250 Q (F0 m 717 ls [])) : W p l e room_1 s m #[Value.ref b0] below meth c H locs 600000 7302250 Q (F0 m 448 ls []) := by
  have hw2 : w ≤ 10 := V.1.2.1
  have hn8 : n ≤ 8 := V.1.2.2.1
  exact lo_best C hi hLL hl V next
theorem lp_bestRow (C : LC p s m c b0 L xs a b) (hi : i + 4 ≤ L) (hLL : L ≤ 2048) (hl : lv_has ls 4 (lvL b0 (b 0) (a 0) i)) (V : LV D K a b s H locs w n lap op mu ba la en pr sc u) (next : ∀ (H : Heap) (locs : List Loc), LVx D K a b s H locs → W p l e room_1 s m #[Value.ref b0] below meth c H locs 600000 7302250 Q (F0 m 717 ls [])) : W p l e room_1 s m #[Value.ref b0] below meth c H locs 600000 7302250 Q (F0 m 461 ls []) := by
  have hw2 : w ≤ 10 := V.1.2.1
  have hn8 : n ≤ 8 := V.1.2.2.1
  rcases cz_un (xs (i + 1)) hn8 with h | ⟨ci, e1, hc⟩
  · exact lo_bestRow_a rfl h C hi hLL hl V next
  by_cases hb : bsS w op mu ba en pr n lap = 1000000000
  · exact lo_bestRow_n e1 hc hb C hi hLL hl V next
  · exact lo_bestRow_y e1 hc hb C hi hLL hl V next
theorem lp_bestOf (C : LC p s m c b0 L xs a b) (hi : i + 4 ≤ L) (hLL : L ≤ 2048) (hl : lv_has ls 4 (lvL b0 (b 0) (a 0) i)) (V : LV D K a b s H locs w n lap op mu ba la en pr sc u) (next : ∀ (H : Heap) (locs : List Loc), LVx D K a b s H locs → W p l e room_1 s m #[Value.ref b0] below meth c H locs 600000 7302250 Q (F0 m 717 ls [])) : W p l e room_1 s m #[Value.ref b0] below meth c H locs 600000 7302250 Q (F0 m 484 ls []) := by
  have hw2 : w ≤ 10 := V.1.2.1
  have hn8 : n ≤ 8 := V.1.2.2.1
  rcases cz_wi (xs (i + 1)) 1 6 (by decide) (by decide) with h | ⟨k, e1, h2, h3⟩
  · exact lo_bestOf_a rfl h C hi hLL hl V next
  by_cases hb : bsS w op mu ba en pr n lap = 1000000000
  · exact lo_bestOf_n e1 h2 h3 hb C hi hLL hl V next
  · exact lo_bestOf_y e1 h2 h3 hb C hi hLL hl V next
theorem lp_highest (C : LC p s m c b0 L xs a b) (hi : i + 4 ≤ L) (hLL : L ≤ 2048) (hl : lv_has ls 4 (lvL b0 (b 0) (a 0) i)) (V : LV D K a b s H locs w n lap op mu ba la en pr sc u) (next : ∀ (H : Heap) (locs : List Loc), LVx D K a b s H locs → W p l e room_1 s m #[Value.ref b0] below meth c H locs 600000 7302250 Q (F0 m 717 ls [])) : W p l e room_1 s m #[Value.ref b0] below meth c H locs 600000 7302250 Q (F0 m 507 ls []) := by
  have hw2 : w ≤ 10 := V.1.2.1
  have hn8 : n ≤ 8 := V.1.2.2.1
  exact lo_highest C hi hLL hl V next
theorem lp_byLap (C : LC p s m c b0 L xs a b) (hi : i + 4 ≤ L) (hLL : L ≤ 2048) (hl : lv_has ls 4 (lvL b0 (b 0) (a 0) i)) (V : LV D K a b s H locs w n lap op mu ba la en pr sc u) (next : ∀ (H : Heap) (locs : List Loc), LVx D K a b s H locs → W p l e room_1 s m #[Value.ref b0] below meth c H locs 600000 7302250 Q (F0 m 717 ls [])) : W p l e room_1 s m #[Value.ref b0] below meth c H locs 600000 7302250 Q (F0 m 520 ls []) := by
  have hw2 : w ≤ 10 := V.1.2.1
  have hn8 : n ≤ 8 := V.1.2.2.1
  rcases cz_wi (xs (i + 1)) 1 3 (by decide) (by decide) with h | ⟨k, h1, h2, h3⟩
  · exact lo_byLap_a rfl h C hi hLL hl V next
  · exact lo_byLap_b h1 h2 h3 C hi hLL hl V next
theorem lp_lay (C : LC p s m c b0 L xs a b) (hi : i + 4 ≤ L) (hLL : L ≤ 2048) (hl : lv_has ls 4 (lvL b0 (b 0) (a 0) i)) (V : LV D K a b s H locs w n lap op mu ba la en pr sc u) (next : ∀ (H : Heap) (locs : List Loc), LVx D K a b s H locs → W p l e room_1 s m #[Value.ref b0] below meth c H locs 600000 7302250 Q (F0 m 717 ls [])) : W p l e room_1 s m #[Value.ref b0] below meth c H locs 600000 7302250 Q (F0 m 543 ls []) := by
  have hw2 : w ≤ 10 := V.1.2.1
  have hn8 : n ≤ 8 := V.1.2.2.1
  rcases cz_un (xs (i + 1)) hn8 with h | ⟨ci, e1, hc⟩
  · exact lo_lay_a rfl rfl h C hi hLL hl V next
  rcases cz_pl (xs (i + 2)) hw2 with h | ⟨k, e2, h2, h3⟩
  · exact lo_lay_b e1 rfl hc h C hi hLL hl V next
  · exact lo_lay_c e1 e2 hc h2 h3 C hi hLL hl V next
theorem lp_layBest (C : LC p s m c b0 L xs a b) (hi : i + 4 ≤ L) (hLL : L ≤ 2048) (hl : lv_has ls 4 (lvL b0 (b 0) (a 0) i)) (V : LV D K a b s H locs w n lap op mu ba la en pr sc u) (next : ∀ (H : Heap) (locs : List Loc), LVx D K a b s H locs → W p l e room_1 s m #[Value.ref b0] below meth c H locs 600000 7302250 Q (F0 m 717 ls [])) : W p l e room_1 s m #[Value.ref b0] below meth c H locs 600000 7302250 Q (F0 m 576 ls []) := by
  have hw2 : w ≤ 10 := V.1.2.1
  have hn8 : n ≤ 8 := V.1.2.2.1
  by_cases hb : bsS w op mu ba en pr n lap = 1000000000
  · exact lo_layBest_n hb C hi hLL hl V next
  · exact lo_layBest_y hb C hi hLL hl V next
theorem lp_wrong (C : LC p s m c b0 L xs a b) (hi : i + 4 ≤ L) (hLL : L ≤ 2048) (hl : lv_has ls 4 (lvL b0 (b 0) (a 0) i)) (V : LV D K a b s H locs w n lap op mu ba la en pr sc u) (next : ∀ (H : Heap) (locs : List Loc), LVx D K a b s H locs → W p l e room_1 s m #[Value.ref b0] below meth c H locs 600000 7302250 Q (F0 m 717 ls [])) : W p l e room_1 s m #[Value.ref b0] below meth c H locs 600000 7302250 Q (F0 m 589 ls []) := by
  have hw2 : w ≤ 10 := V.1.2.1
  have hn8 : n ≤ 8 := V.1.2.2.1
  rcases cz_wi (xs (i + 1)) 0 1 (by decide) (by decide) with h | ⟨k, e1, h2, h3⟩
  · exact lo_wrong_a rfl h C hi hLL hl V next
  rcases (show k = 0 ∨ k = 1 by omega) with rfl | rfl
  · exact lo_wrong_0 e1 C hi hLL hl V next
  · exact lo_wrong_1 e1 C hi hLL hl V next
theorem lp_cost (C : LC p s m c b0 L xs a b) (hi : i + 4 ≤ L) (hLL : L ≤ 2048) (hl : lv_has ls 4 (lvL b0 (b 0) (a 0) i)) (V : LV D K a b s H locs w n lap op mu ba la en pr sc u) (next : ∀ (H : Heap) (locs : List Loc), LVx D K a b s H locs → W p l e room_1 s m #[Value.ref b0] below meth c H locs 600000 7302250 Q (F0 m 717 ls [])) : W p l e room_1 s m #[Value.ref b0] below meth c H locs 600000 7302250 Q (F0 m 612 ls []) := by
  have hw2 : w ≤ 10 := V.1.2.1
  have hn8 : n ≤ 8 := V.1.2.2.1
  exact lo_cost C hi hLL hl V next
theorem lp_pieces (C : LC p s m c b0 L xs a b) (hi : i + 4 ≤ L) (hLL : L ≤ 2048) (hl : lv_has ls 4 (lvL b0 (b 0) (a 0) i)) (V : LV D K a b s H locs w n lap op mu ba la en pr sc u) (next : ∀ (H : Heap) (locs : List Loc), LVx D K a b s H locs → W p l e room_1 s m #[Value.ref b0] below meth c H locs 600000 7302250 Q (F0 m 717 ls [])) : W p l e room_1 s m #[Value.ref b0] below meth c H locs 600000 7302250 Q (F0 m 625 ls []) := by
  have hw2 : w ≤ 10 := V.1.2.1
  have hn8 : n ≤ 8 := V.1.2.2.1
  rcases cz_wi (xs (i + 1)) 1 10 (by decide) (by decide) with h | ⟨k, h1, h2, h3⟩
  · exact lo_pieces_a rfl h C hi hLL hl V next
  · exact lo_pieces_b h1 h2 h3 C hi hLL hl V next
theorem lp_piece (C : LC p s m c b0 L xs a b) (hi : i + 4 ≤ L) (hLL : L ≤ 2048) (hl : lv_has ls 4 (lvL b0 (b 0) (a 0) i)) (V : LV D K a b s H locs w n lap op mu ba la en pr sc u) (next : ∀ (H : Heap) (locs : List Loc), LVx D K a b s H locs → W p l e room_1 s m #[Value.ref b0] below meth c H locs 600000 7302250 Q (F0 m 717 ls [])) : W p l e room_1 s m #[Value.ref b0] below meth c H locs 600000 7302250 Q (F0 m 648 ls []) := by
  have hw2 : w ≤ 10 := V.1.2.1
  have hn8 : n ≤ 8 := V.1.2.2.1
  rcases cz_un (xs (i + 1)) hn8 with h | ⟨ci, e1, hc⟩
  · exact lo_piece_a rfl rfl h C hi hLL hl V next
  have hw1 : 2 ≤ w := V.1.1
  rcases cz_wi (xs (i + 2)) 0 (w - 1) (by decide) (by omega) with h | ⟨k, e2, h2, h3⟩
  · exact lo_piece_b e1 rfl hc h C hi hLL hl V next
  cases ho : Nat.testBit (op ci) k
  · exact lo_piece_d e1 e2 hc (by omega) ho C hi hLL hl V next
  · exact lo_piece_c e1 e2 hc (by omega) ho C hi hLL hl V next
theorem lp_cut (C : LC p s m c b0 L xs a b) (hi : i + 4 ≤ L) (hLL : L ≤ 2048) (hl : lv_has ls 4 (lvL b0 (b 0) (a 0) i)) (V : LV D K a b s H locs w n lap op mu ba la en pr sc u) (next : ∀ (H : Heap) (locs : List Loc), LVx D K a b s H locs → W p l e room_1 s m #[Value.ref b0] below meth c H locs 600000 7302250 Q (F0 m 717 ls [])) : W p l e room_1 s m #[Value.ref b0] below meth c H locs 600000 7302250 Q (F0 m 681 ls []) := by
  have hw2 : w ≤ 10 := V.1.2.1
  have hn8 : n ≤ 8 := V.1.2.2.1
  exact lo_cut C hi hLL hl V next
theorem lp_many (C : LC p s m c b0 L xs a b) (hi : i + 4 ≤ L) (hLL : L ≤ 2048) (hl : lv_has ls 4 (lvL b0 (b 0) (a 0) i)) (V : LV D K a b s H locs w n lap op mu ba la en pr sc u) (next : ∀ (H : Heap) (locs : List Loc), LVx D K a b s H locs → W p l e room_1 s m #[Value.ref b0] below meth c H locs 600000 7302250 Q (F0 m 717 ls [])) : W p l e room_1 s m #[Value.ref b0] below meth c H locs 600000 7302250 Q (F0 m 694 ls []) := by
  have hw2 : w ≤ 10 := V.1.2.1
  have hn8 : n ≤ 8 := V.1.2.2.1
  rcases cz_sw (xs (i + 1)) 5 with h | ⟨k, e1, hk⟩
  · exact lo_many_b rfl h C hi hLL hl V next
  · rcases (show k = 0 ∨ k = 1 ∨ k = 2 ∨ k = 3 ∨ k = 4 ∨ k = 5 by omega) with rfl | rfl | rfl | rfl | rfl | rfl
    · exact lo_many_0 e1 C hi hLL hl V next
    · exact lo_many_1 e1 C hi hLL hl V next
    · exact lo_many_2 e1 C hi hLL hl V next
    · exact lo_many_3 e1 C hi hLL hl V next
    · exact lo_many_4 e1 C hi hLL hl V next
    · exact lo_many_5 e1 C hi hLL hl V next
theorem il4 {i L : Nat} (hL : L ≤ 2048) (hi : i ≤ 4096) : nI L - 4 < nI i ↔ L < i + 4 := by
  have h4 : (nI L - 4 : Int32) = nI L - nI 4 := rfl
  rw [Int32.lt_iff_toInt_lt, nI_toInt (by omega)]
  by_cases h : 4 ≤ L
  · have e : nI L - nI 4 = nI (L - 4) := by
      have : nI L = nI (L - 4) + nI 4 := by rw [nI_add]; congr 1; omega
      rw [this, Int32.add_sub_cancel]
    rw [h4, e, nI_toInt (by omega)]; omega
  · have hc : L = 0 ∨ L = 1 ∨ L = 2 ∨ L = 3 := by omega
    rcases hc with rfl | rfl | rfl | rfl
    · rw [show (nI 0 - 4 : Int32).toInt = -4 by decide]; omega
    · rw [show (nI 1 - 4 : Int32).toInt = -3 by decide]; omega
    · rw [show (nI 2 - 4 : Int32).toInt = -2 by decide]; omega
    · rw [show (nI 3 - 4 : Int32).toInt = -1 by decide]; omega
theorem law_loop (C : LC p s m c b0 L xs a b) (hLL : L ≤ 2048) (fin : ∀ (H : Heap) (locs : List Loc) (ls : Array Slot), va_S (fun q => s.heap.size ≤ q) s.heap H locs → W p l e room_1 s m #[Value.ref b0] below meth c H locs 600000 7302250 Q (F0 m 724 ls [.int 1])) :
    ∀ (f i : Nat) (H : Heap) (locs : List Loc) (ls : Array Slot), L - i < f → i ≤ 4096 → LVx D K a b s H locs → lv_has ls 4 (lvL b0 (b 0) (a 0) i) → W p l e room_1 s m #[Value.ref b0] below meth c H locs 600000 7302250 Q (F0 m 18 ls []) := by
  intro f
  induction f with
  | zero => intro i H locs ls h; exact absurd h (Nat.not_lt_zero _)
  | succ f ih =>
    intro i H locs ls hf hi0 V hl
    have C0 := C
    obtain ⟨S, hX, hbl, hda, hdb, hab, hga, hgb⟩ := C
    have hbA : ¬ (fun q : Nat => s.heap.size ≤ q) b0 := Nat.not_le.mpr hbl
    obtain ⟨w, n, lap, op, mu, ba, la, en, pr, sc, u, V⟩ := V
    have hS := V.2.2.2.2.2
    refine lv_iload_n S.1 S.2.1 dL_law_18 rfl (lv_at hl 3 rfl) ?_
    refine lv_aload_n S.1 S.2.1 dL_law_19 rfl (lv_at hl 0 rfl) ?_
    refine va_slen S.1 S.2.1 hX hbl hbA hS dL_law_20 ?_
    refine lv_iconst (v := 4) S.1 S.2.1 dL_law_21 (by decide) ?_
    refine lv_isub S.1 S.2.1 dL_law_22 ?_
    refine lv_icmp_gt (tgt := 723) S.1 S.2.1 dL_law_23 (by decide) (fun h => ?_) (fun h => ?_)
    · refine lv_iconst (v := 1) S.1 S.2.1 dL_law_723 (by decide) ?_
      exact fin _ _ _ hS
    · have hi : i + 4 ≤ L := by
        have := mt (il4 (i := i) (L := L) hLL hi0).mpr h
        omega
      have next : ∀ (H : Heap) (locs : List Loc), LVx D K a b s H locs → W p l e room_1 s m #[Value.ref b0] below meth c H locs 600000 7302250 Q (F0 m 717 ls []) := fun H locs V => by
        refine lv_iinc (v := nI (i + 4)) (lv' := [(3, .int (nI (i + 4))), (0, .ref b0), (1, .ref (b 0)), (2, .ref (a 0))]) S.1 S.2.1 dL_law_717 hl (k := 3) rfl (nJ_in _ _) (by decide) rfl (fun ls hl => ?_)
        refine lv_goto (tgt := 18) S.1 S.2.1 dL_law_720 (by decide) ?_
        exact ih (i + 4) H locs ls (by omega) (by omega) V (lv_sub hl [1, 2, 3, 0] rfl)
      refine lv_aload_n S.1 S.2.1 dL_law_26 rfl (lv_at hl 0 rfl) ?_
      refine lv_iload_n S.1 S.2.1 dL_law_27 rfl (lv_at hl 3 rfl) ?_
      refine la_sld (j := i) (v := xs i) S hX hbl hbA hS (by omega) hLL rfl rfl dL_law_28 ?_
      refine lv_bipush (v := 31) S.1 S.2.1 dL_law_29 (by decide) ?_
      refine lv_iand S.1 S.2.1 dL_law_31 ?_
      obtain ⟨j, hj, ej⟩ := pk_andE (xs i) (m := 31) 5 (by decide)
      rw [ej]
      by_cases h24 : 24 ≤ j
      · refine lv_tableOut (tgt := 717) S.1 S.2.1 dL_law_32 (Or.inr (by rw [nI_toInt (by omega)]; omega)) (by decide) ?_
        exact next _ _ ⟨w, n, lap, op, mu, ba, la, en, pr, sc, u, V⟩
      · have hc : j = 0 ∨ j = 1 ∨ j = 2 ∨ j = 3 ∨ j = 4 ∨ j = 5 ∨ j = 6 ∨ j = 7 ∨ j = 8 ∨ j = 9 ∨ j = 10 ∨ j = 11 ∨ j = 12 ∨ j = 13 ∨ j = 14 ∨ j = 15 ∨ j = 16 ∨ j = 17 ∨ j = 18 ∨ j = 19 ∨ j = 20 ∨ j = 21 ∨ j = 22 ∨ j = 23 := by omega
        rcases hc with rfl | rfl | rfl | rfl | rfl | rfl | rfl | rfl | rfl | rfl | rfl | rfl | rfl | rfl | rfl | rfl | rfl | rfl | rfl | rfl | rfl | rfl | rfl | rfl
        · exact lv_tableIn (tgt := 144) (off := 112) S.1 S.2.1 dL_law_32 (by decide) (by decide) (by decide) (by decide) (lp_width C0 hi hLL hl V next)
        · exact lv_tableIn (tgt := 167) (off := 135) S.1 S.2.1 dL_law_32 (by decide) (by decide) (by decide) (by decide) (lp_course C0 hi hLL hl V next)
        · exact lv_tableIn (tgt := 180) (off := 148) S.1 S.2.1 dL_law_32 (by decide) (by decide) (by decide) (by decide) (lp_take C0 hi hLL hl V next)
        · exact lv_tableIn (tgt := 193) (off := 161) S.1 S.2.1 dL_law_32 (by decide) (by decide) (by decide) (by decide) (lp_open C0 hi hLL hl V next)
        · exact lv_tableIn (tgt := 226) (off := 194) S.1 S.2.1 dL_law_32 (by decide) (by decide) (by decide) (by decide) (lp_must C0 hi hLL hl V next)
        · exact lv_tableIn (tgt := 269) (off := 237) S.1 S.2.1 dL_law_32 (by decide) (by decide) (by decide) (by decide) (lp_price C0 hi hLL hl V next)
        · exact lv_tableIn (tgt := 302) (off := 270) S.1 S.2.1 dL_law_32 (by decide) (by decide) (by decide) (by decide) (lp_lap C0 hi hLL hl V next)
        · exact lv_tableIn (tgt := 325) (off := 293) S.1 S.2.1 dL_law_32 (by decide) (by decide) (by decide) (by decide) (lp_ends C0 hi hLL hl V next)
        · exact lv_tableIn (tgt := 368) (off := 336) S.1 S.2.1 dL_law_32 (by decide) (by decide) (by decide) (by decide) (lp_ofCourse C0 hi hLL hl V next)
        · exact lv_tableIn (tgt := 401) (off := 369) S.1 S.2.1 dL_law_32 (by decide) (by decide) (by decide) (by decide) (lp_row C0 hi hLL hl V next)
        · exact lv_tableIn (tgt := 434) (off := 402) S.1 S.2.1 dL_law_32 (by decide) (by decide) (by decide) (by decide) (lp_walls C0 hi hLL hl V next)
        · exact lv_tableIn (tgt := 448) (off := 416) S.1 S.2.1 dL_law_32 (by decide) (by decide) (by decide) (by decide) (lp_best C0 hi hLL hl V next)
        · exact lv_tableIn (tgt := 461) (off := 429) S.1 S.2.1 dL_law_32 (by decide) (by decide) (by decide) (by decide) (lp_bestRow C0 hi hLL hl V next)
        · exact lv_tableIn (tgt := 484) (off := 452) S.1 S.2.1 dL_law_32 (by decide) (by decide) (by decide) (by decide) (lp_bestOf C0 hi hLL hl V next)
        · exact lv_tableIn (tgt := 507) (off := 475) S.1 S.2.1 dL_law_32 (by decide) (by decide) (by decide) (by decide) (lp_highest C0 hi hLL hl V next)
        · exact lv_tableIn (tgt := 520) (off := 488) S.1 S.2.1 dL_law_32 (by decide) (by decide) (by decide) (by decide) (lp_byLap C0 hi hLL hl V next)
        · exact lv_tableIn (tgt := 543) (off := 511) S.1 S.2.1 dL_law_32 (by decide) (by decide) (by decide) (by decide) (lp_lay C0 hi hLL hl V next)
        · exact lv_tableIn (tgt := 576) (off := 544) S.1 S.2.1 dL_law_32 (by decide) (by decide) (by decide) (by decide) (lp_layBest C0 hi hLL hl V next)
        · exact lv_tableIn (tgt := 589) (off := 557) S.1 S.2.1 dL_law_32 (by decide) (by decide) (by decide) (by decide) (lp_wrong C0 hi hLL hl V next)
        · exact lv_tableIn (tgt := 612) (off := 580) S.1 S.2.1 dL_law_32 (by decide) (by decide) (by decide) (by decide) (lp_cost C0 hi hLL hl V next)
        · exact lv_tableIn (tgt := 625) (off := 593) S.1 S.2.1 dL_law_32 (by decide) (by decide) (by decide) (by decide) (lp_pieces C0 hi hLL hl V next)
        · exact lv_tableIn (tgt := 648) (off := 616) S.1 S.2.1 dL_law_32 (by decide) (by decide) (by decide) (by decide) (lp_piece C0 hi hLL hl V next)
        · exact lv_tableIn (tgt := 681) (off := 649) S.1 S.2.1 dL_law_32 (by decide) (by decide) (by decide) (by decide) (lp_cut C0 hi hLL hl V next)
        · exact lv_tableIn (tgt := 694) (off := 662) S.1 S.2.1 dL_law_32 (by decide) (by decide) (by decide) (by decide) (lp_many C0 hi hLL hl V next)
end LP
