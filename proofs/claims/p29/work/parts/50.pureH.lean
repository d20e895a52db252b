/-! grades, limits, settings -/
theorem inv_grade {w : Nat → Int32} {i : Nat} {x : Int32} (h : Inv w) (hi : i < 30) (hx : sml x 9) : Inv (upd w i x) := by
  obtain ⟨i1, i2, i3, i4, i5, i6, i7⟩ := h
  refine ⟨by rw [upd_n (by omega)]; exact i1, ?_, ?_, ?_, ?_, ?_, ?_⟩
  · intro c hc
    have := i2 c hc
    unfold carI at this ⊢
    simp (disch := omega) only [upd_n]
    exact this
  · simp (disch := omega) only [upd_n]
    exact i3
  · intro j hj
    by_cases e : j = i
    · subst e; rw [upd_s]; exact hx
    · rw [upd_n e]; exact i4 j hj
  · intro j hj
    rw [upd_n (by omega)]; exact i5 j hj
  · rw [ct_congr (Q := fun i => decide (0 < w (30 + i))) (fun j hj => by
      show decide (0 < upd w i x (30 + j)) = decide (0 < w (30 + j))
      rw [upd_n (by omega)])]
    exact i6
  · intro j hj
    rw [upd_n (by omega)]; exact i7 j hj
theorem inv_limit {w : Nat → Int32} {i : Nat} {x : Int32} (h : Inv w) (hi : i < 30) (hx : sml x 40) (hc : ctN (isSw (upd w (30 + i) x)) 30 ≤ 4) : Inv (upd w (30 + i) x) := by
  obtain ⟨i1, i2, i3, i4, i5, i6, i7⟩ := h
  refine ⟨by rw [upd_n (by omega)]; exact i1, ?_, ?_, ?_, ?_, hc, ?_⟩
  · intro c hc
    have := i2 c hc
    unfold carI at this ⊢
    simp (disch := omega) only [upd_n]
    exact this
  · simp (disch := omega) only [upd_n]
    exact i3
  · intro j hj
    rw [upd_n (by omega)]; exact i4 j hj
  · intro j hj
    by_cases e : j = i
    · subst e; rw [upd_s]; exact hx
    · rw [upd_n (by omega)]; exact i5 j hj
  · intro j hj
    rw [upd_n (by omega)]; exact i7 j hj
theorem inv_set {w : Nat → Int32} {i : Nat} {x : Int32} (h : Inv w) (hx : i = 0 ∧ sml x 5 ∨ i = 1 ∧ sml x 20 ∨ i = 2 ∧ sml x 4) : Inv (upd w (168 + i) x) := by
  obtain ⟨i1, i2, ⟨s1, s2, s3⟩, i4, i5, i6, i7⟩ := h
  have hi : i < 3 := by omega
  refine ⟨by rw [upd_n (by omega)]; exact i1, ?_, ?_, ?_, ?_, ?_, ?_⟩
  · intro c hc
    have := i2 c hc
    unfold carI at this ⊢
    simp (disch := omega) only [upd_n]
    exact this
  · rcases hx with ⟨rfl, hx⟩ | ⟨rfl, hx⟩ | ⟨rfl, hx⟩
    · exact ⟨by rw [upd_s]; exact hx, by rw [upd_n (by omega)]; exact s2, by rw [upd_n (by omega)]; exact s3⟩
    · exact ⟨by rw [upd_n (by omega)]; exact s1, by rw [upd_s]; exact hx, by rw [upd_n (by omega)]; exact s3⟩
    · exact ⟨by rw [upd_n (by omega)]; exact s1, by rw [upd_n (by omega)]; exact s2, by rw [upd_s]; exact hx⟩
  · intro j hj
    rw [upd_n (by omega)]; exact i4 j hj
  · intro j hj
    rw [upd_n (by omega)]; exact i5 j hj
  · rw [ct_congr (Q := fun i => decide (0 < w (30 + i))) (fun j hj => by
      show decide (0 < upd w (168 + i) x (30 + j)) = decide (0 < w (30 + j))
      rw [upd_n (by omega)])]
    exact i6
  · intro j hj
    rw [upd_n (by omega)]; exact i7 j hj
theorem ct_upd {P Q : Nat → Bool} {i : Nat} : ∀ {n : Nat}, (∀ d, d < n → d ≠ i → P d = Q d) → ctN P n ≤ ctN Q n + 1
  | 0, _ => by show 0 ≤ _; omega
  | n + 1, h => by
    by_cases e : n = i
    · have h1 := ct_congr (P := P) (Q := Q) (n := n) (fun d hd => h d (by omega) (by omega))
      show ctN P n + (if P n then 1 else 0) ≤ ctN Q n + (if Q n then 1 else 0) + 1
      rw [h1]
      split <;> omega
    · have h1 := ct_upd (P := P) (Q := Q) (i := i) (n := n) (fun d hd => h d (by omega))
      show ctN P n + (if P n then 1 else 0) ≤ ctN Q n + (if Q n then 1 else 0) + 1
      rw [h n (by omega) e]
      split <;> omega
theorem sml_9 {y : Int32} (h : 0 ≤ y ∧ y ≤ 9) : sml y 9 := by
  obtain ⟨k, hk, rfl⟩ := rng_k 9 (by omega) h
  exact sml_n hk
theorem q_grade {mu : Nat → Nat → Int32} {v0 v1 v3 v4 v5 v6 : Nat → Int32} (x y : Int32) (h : Rel mu v0 v1 v3 v4 v5 v6) :
    ∃ t r v0' v1' v3', f4_grade_0 x y mu = some t ∧ f5_grade_0 x y v0 v1 v3 = some (r, v0', v1', v3') ∧ Rel t.2.2 v0' v1' v3' v4 v5 v6 ∧
      (t.1 = 0 ∧ v0' 8 = 0 ∧ t.2.1 = r ∨ t.1 = 1 ∧ v0' 8 = 1 ∨ t.1 = 2 ∧ v0' 8 = 2) := by
  have hR := h
  obtain ⟨h1, h2, h3, h4, h5⟩ := h
  unfold f4_grade_0 f5_grade_0 f4_grade_14
  rw [rgq 0 29 30 _ _ rfl, in_s, ob]
  by_cases hx : 0 ≤ x ∧ x ≤ 29
  · rw [if_pos hx, b01_t hx, if_neg n10]
    obtain ⟨i, hi, rfl⟩ := rng_k 29 (by omega) hx
    unfold f4_grade_15 f5_grade_30
    rw [if_neg n10, iw_s, in_s, ob, ob]
    by_cases hy : 0 ≤ y ∧ y ≤ 9
    · rw [b01_t hy, if_neg n10, if_neg n10, rf_0, ob, if_pos rfl]
      obtain ⟨mu', v0', v3', g1, g2, g3, g4, g5, g6⟩ := rel_p (rel_8 (x := 0) hR)
      show ∃ t r v0' v1' v3', _ ∧ Option.bind (f5_saves_0 v1 (upd v0 8 0) v3) _ = some (r, v0', v1', v3') ∧ _
      rw [g1, ob, g2, ob]
      simp (disch := omega) only [gd_n, cl_n, ar_0, Nat.zero_add]
      refine ⟨_, _, _, _, _, rfl, rfl, ?_, Or.inl ⟨rfl, ?_, ?_⟩⟩
      · show Rel (s1 mu' 0 (upd (mu' 0) i y)) _ _ _ _ _ _
        rw [g4]
        exact rel_s g3 (inv_grade (g4 ▸ g3.2.1 0 (by omega)) (by omega) (sml_9 hy))
      · show v0' 8 = 0
        rw [g6 8 (by omega), upd_s]
      · show mu' 0 i = v1 i
        rw [g4]
    · rw [b01_f hy, if_pos rfl, if_pos rfl, rf_2, ob, if_neg n10]
      exact ⟨_, _, _, _, _, rfl, rfl, rel_8 hR, Or.inr (Or.inr ⟨rfl, u8 v0 2⟩)⟩
  · rw [if_neg hx, b01_f hx, if_pos rfl]
    unfold f4_grade_15 f5_grade_30
    rw [if_pos rfl, rf_1, ob, if_neg n10]
    exact ⟨_, _, _, _, _, rfl, rfl, rel_8 hR, Or.inr (Or.inl ⟨rfl, u8 v0 1⟩)⟩
theorem q_set {mu : Nat → Nat → Int32} {v0 v1 v3 v4 v5 v6 : Nat → Int32} (x y : Int32) (h : Rel mu v0 v1 v3 v4 v5 v6) :
    ∃ t r v0' v1' v3', f4_set_0 x y mu = some t ∧ f5_set_0 x y v0 v1 v3 = some (r, v0', v1', v3') ∧ Rel t.2.2 v0' v1' v3' v4 v5 v6 ∧
      (t.1 = 0 ∧ v0' 8 = 0 ∧ t.2.1 = r ∨ t.1 = 1 ∧ v0' 8 = 1 ∨ t.1 = 2 ∧ v0' 8 = 2) := by
  have hR := h
  obtain ⟨h1, h2, h3, h4, h5⟩ := h
  unfold f4_set_0 f5_set_0 f4_set_13
  rw [rgq 0 2 3 _ _ rfl, in_s, ob]
  by_cases hx : 0 ≤ x ∧ x ≤ 2
  · rw [if_pos hx, b01_t hx, if_neg n10]
    obtain ⟨i, hi, rfl⟩ := rng_k 2 (by omega) hx
    have el : ∃ lo hi2, f4_leastOfSetting_0 (nI i) = some lo ∧ f4_greatestOfSetting_0 (nI i) = some hi2 ∧ f5_least_0 (nI i) = some lo ∧ f5_most_0 (nI i) = some hi2 ∧ (∀ y, lo ≤ y ∧ y ≤ hi2 → i = 0 ∧ sml y 5 ∨ i = 1 ∧ sml y 20 ∨ i = 2 ∧ sml y 4) := by
      obtain rfl | rfl | rfl : i = 0 ∨ i = 1 ∨ i = 2 := by omega
      · refine ⟨0, 5, rfl, rfl, rfl, rfl, fun y hy => Or.inl ⟨rfl, ?_⟩⟩
        obtain ⟨k, hk, rfl⟩ := rng_k 5 (by omega) hy
        exact sml_n hk
      · refine ⟨1, 20, rfl, rfl, rfl, rfl, fun y hy => Or.inr (Or.inl ⟨rfl, ?_⟩)⟩
        have h0 : (0 : Int32) ≤ y := by have := i_le.mp hy.1; rw [i_le]; rw [show (1 : Int32).toInt = 1 from rfl] at this; rw [show (0 : Int32).toInt = 0 from rfl]; omega
        obtain ⟨k, hk, rfl⟩ := rng_k 20 (by omega) ⟨h0, hy.2⟩
        exact sml_n hk
      · refine ⟨0, 4, rfl, rfl, rfl, rfl, fun y hy => Or.inr (Or.inr ⟨rfl, ?_⟩)⟩
        obtain ⟨k, hk, rfl⟩ := rng_k 4 (by omega) hy
        exact sml_n hk
    obtain ⟨lo, hi2, l1, l2, l3, l4, l5⟩ := el
    unfold f4_set_14 f5_set_34
    rw [if_neg n10, l1, ob, l2, ob, l3, ob, l4, ob, iw_s, in_s, ob, ob]
    by_cases hy : lo ≤ y ∧ y ≤ hi2
    · rw [b01_t hy, if_neg n10, if_neg n10, rf_0, ob, if_pos rfl]
      obtain ⟨mu', v0', v3', g1, g2, g3, g4, g5, g6⟩ := rel_p (rel_8 (x := 0) hR)
      show ∃ t r v0' v1' v3', _ ∧ Option.bind (f5_saves_0 v1 (upd v0 8 0) v3) _ = some (r, v0', v1', v3') ∧ _
      rw [g1, ob, g2, ob]
      simp (disch := omega) only [gd_n, cl_n, ar_168]
      refine ⟨_, _, _, _, _, rfl, rfl, ?_, Or.inl ⟨rfl, ?_, ?_⟩⟩
      · show Rel (s1 mu' 0 (upd (mu' 0) (168 + i) y)) _ _ _ _ _ _
        rw [g4]
        exact rel_s g3 (inv_set (g4 ▸ g3.2.1 0 (by omega)) (l5 y hy))
      · show v0' 8 = 0
        rw [g6 8 (by omega), upd_s]
      · show mu' 0 (168 + i) = v1 (168 + i)
        rw [g4]
    · rw [b01_f hy, if_pos rfl, if_pos rfl, rf_2, ob, if_neg n10]
      exact ⟨_, _, _, _, _, rfl, rfl, rel_8 hR, Or.inr (Or.inr ⟨rfl, u8 v0 2⟩)⟩
  · rw [if_neg hx, b01_f hx, if_pos rfl]
    unfold f4_set_14 f5_set_34
    rw [if_pos rfl, rf_1, ob, if_neg n10]
    exact ⟨_, _, _, _, _, rfl, rfl, rel_8 hR, Or.inr (Or.inl ⟨rfl, u8 v0 1⟩)⟩
