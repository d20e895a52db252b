/-! questions -/
theorem q_cars {mu : Nat → Nat → Int32} {v0 v1 v3 v4 v5 v6 : Nat → Int32} (x : Int32) (h : Rel mu v0 v1 v3 v4 v5 v6) :
    ∃ t r v0', f4_cars_0 mu x = some t ∧ f5_cars_0 v1 x v0 = some (r, v0') ∧ Rel mu v0' v1 v3 v4 v5 v6 ∧
      (t.1 = 0 ∧ v0' 8 = 0 ∧ t.2 = r ∨ t.1 = 2 ∧ v0' 8 = 1) := by
  have hR := h
  obtain ⟨h1, h2, h3, h4, h5⟩ := h
  have hI : Inv v1 := h1 ▸ h2 0 (by omega)
  obtain ⟨N, hN, hw⟩ := inv_N hI
  unfold f4_cars_0 f5_cars_0 f5_cars_15
  rw [iw_s, ob, in_s, ob]
  by_cases hx : 0 ≤ x ∧ x ≤ 4
  · rw [b01_t hx, if_neg n10, if_neg n10, rf_0, ob, if_pos rfl, h1, cis_s hN hw, ob, cat_s hN hw, ob, if_pos (show (-1 : Int32) < 0 by decide)]
    exact ⟨_, _, _, rfl, rfl, rel_8 hR, Or.inl ⟨rfl, u8 v0 0, rfl⟩⟩
  · rw [b01_f hx, if_pos rfl, if_pos rfl, rf_1, ob, if_neg n10]
    exact ⟨_, _, _, rfl, rfl, rel_8 hR, Or.inr ⟨rfl, u8 v0 1⟩⟩
theorem nI_n0 {k : Nat} (h : k < 2 ^ 31) : ¬ nI k < 0 := by rw [show (0 : Int32) = nI 0 from rfl, n_lt h (by omega)]; omega
theorem q_section {mu : Nat → Nat → Int32} {v0 v1 v3 v4 v5 v6 : Nat → Int32} (x y : Int32) (h : Rel mu v0 v1 v3 v4 v5 v6) :
    ∃ t r v0', f4_section_0 mu x y = some t ∧ f5_section_0 v1 x y v0 = some (r, v0') ∧ Rel mu v0' v1 v3 v4 v5 v6 ∧
      (t.1 = 0 ∧ v0' 8 = 0 ∧ t.2 = r ∨ t.1 = 1 ∧ v0' 8 = 1 ∨ t.1 = 2 ∧ v0' 8 = 2) := by
  have hR := h
  obtain ⟨h1, h2, h3, h4, h5⟩ := h
  have hI : Inv v1 := h1 ▸ h2 0 (by omega)
  obtain ⟨N, hN, hw⟩ := inv_N hI
  unfold f4_section_0 f5_section_0 f4_section_14
  rw [rgq 0 29 30 _ _ rfl, in_s, ob]
  by_cases hx : 0 ≤ x ∧ x ≤ 29
  · rw [if_pos hx, b01_t hx, if_neg n10]
    obtain ⟨i, hi, rfl⟩ := rng_k 29 (by omega) hx
    unfold f4_section_15 f5_section_29
    rw [if_neg n10, iw_s, in_s, ob, ob]
    by_cases hy : 0 ≤ y ∧ y ≤ 4
    · rw [b01_t hy, if_neg n10, if_neg n10, rf_0, ob, if_pos rfl]
      simp (disch := omega) only [gd_n, cl_n, ar_0, ar_30, ar_60, Nat.zero_add, h1, cic_s hN hw, cat_s hN hw, if_neg (nI_n0 (show i < 2 ^ 31 by omega)), ob]
      by_cases e0 : y = 0
      · rw [if_pos e0, if_pos e0]
        exact ⟨_, _, _, rfl, rfl, rel_8 hR, Or.inl ⟨rfl, u8 v0 0, rfl⟩⟩
      rw [if_neg e0, if_neg e0]
      by_cases e1 : y = 1
      · rw [if_pos e1, if_pos e1]
        exact ⟨_, _, _, rfl, rfl, rel_8 hR, Or.inl ⟨rfl, u8 v0 0, rfl⟩⟩
      rw [if_neg e1, if_neg e1]
      by_cases e2 : y = 2
      · rw [if_pos e2, if_pos e2]
        exact ⟨_, _, _, rfl, rfl, rel_8 hR, Or.inl ⟨rfl, u8 v0 0, rfl⟩⟩
      rw [if_neg e2, if_neg e2]
      by_cases e3 : y = 3
      · rw [if_pos e3, if_pos e3]
        exact ⟨_, _, _, rfl, rfl, rel_8 hR, Or.inl ⟨rfl, u8 v0 0, rfl⟩⟩
      rw [if_neg e3, if_neg e3]
      exact ⟨_, _, _, rfl, rfl, rel_8 hR, Or.inl ⟨rfl, u8 v0 0, rfl⟩⟩
    · rw [b01_f hy, if_pos rfl, if_pos rfl, rf_2, ob, if_neg n10]
      exact ⟨_, _, _, rfl, rfl, rel_8 hR, Or.inr (Or.inr ⟨rfl, u8 v0 2⟩)⟩
  · rw [if_neg hx, b01_f hx, if_pos rfl]
    unfold f4_section_15 f5_section_29
    rw [if_pos rfl, rf_1, ob, if_neg n10]
    exact ⟨_, _, _, rfl, rfl, rel_8 hR, Or.inr (Or.inl ⟨rfl, u8 v0 1⟩)⟩
theorem q_refusal {mu : Nat → Nat → Int32} {v0 v1 v3 v4 v5 v6 : Nat → Int32} (x y : Int32) (h : Rel mu v0 v1 v3 v4 v5 v6) :
    ∃ t r v0', f4_refusal_0 mu x y = some t ∧ f5_refusal_0 v1 x y v0 = some (r, v0') ∧ Rel mu v0' v1 v3 v4 v5 v6 ∧
      (t.1 = 0 ∧ v0' 8 = 0 ∧ t.2 = r ∨ t.1 = 1 ∧ v0' 8 = 1) := by
  have hR := h
  obtain ⟨h1, h2, h3, h4, h5⟩ := h
  have hI : Inv v1 := h1 ▸ h2 0 (by omega)
  obtain ⟨N, hN, hw⟩ := inv_N hI
  unfold f4_refusal_0 f5_refusal_0 f5_refusal_14 f4_refusal_34 f5_refusal_39
  rw [h1, hasCar_s hN hw, ob, isCar_s hN hw, ob]
  by_cases hx : 0 ≤ x ∧ x < nI N
  · rw [b01_t hx, if_neg n10, if_neg n10]
    obtain ⟨k, hk, rfl⟩ := car_k hN hx
    rw [rf_0, ob, if_pos rfl, pr_s hN hw hk, np_s hN hw hk, rr_s hN hw hk, nr_s (fun c hc => inv_p hI (by omega)) hN hw hk, ob, ob, ob, ob]
    by_cases hy : y = 0
    · rw [if_pos hy, if_pos hy]
      exact ⟨_, _, _, rfl, rfl, rel_8 hR, Or.inl ⟨rfl, u8 v0 0, rfl⟩⟩
    · rw [if_neg hy, if_neg hy]
      exact ⟨_, _, _, rfl, rfl, rel_8 hR, Or.inl ⟨rfl, u8 v0 0, rfl⟩⟩
  · rw [b01_f hx, if_pos rfl, if_pos rfl, rf_1, ob, if_neg n10]
    exact ⟨_, _, _, rfl, rfl, rel_8 hR, Or.inr ⟨rfl, u8 v0 1⟩⟩
theorem q_carOf {mu : Nat → Nat → Int32} {v0 v1 v3 v4 v5 v6 : Nat → Int32} (x y : Int32) (h : Rel mu v0 v1 v3 v4 v5 v6) :
    ∃ t r v0', f4_carOf_0 mu x y = some t ∧ f5_carOf_0 v1 x y v0 = some (r, v0') ∧ Rel mu v0' v1 v3 v4 v5 v6 ∧
      (t.1 = 0 ∧ v0' 8 = 0 ∧ t.2 = r ∨ t.1 = 1 ∧ v0' 8 = 1 ∨ t.1 = 2 ∧ v0' 8 = 2) := by
  have hR := h
  obtain ⟨h1, h2, h3, h4, h5⟩ := h
  have hI : Inv v1 := h1 ▸ h2 0 (by omega)
  obtain ⟨N, hN, hw⟩ := inv_N hI
  unfold f4_carOf_0 f5_carOf_0 f5_carOf_28
  rw [h1, hasCar_s hN hw, ob, isCar_s hN hw, ob]
  by_cases hx : 0 ≤ x ∧ x < nI N
  · rw [b01_t hx, if_neg n10, if_neg n10]
    obtain ⟨k, hk, rfl⟩ := car_k hN hx
    rw [iw_s, in_s, ob, ob]
    by_cases hy : 0 ≤ y ∧ y ≤ 9
    · rw [b01_t hy, if_neg n10, if_neg n10, rf_0, ob, if_pos rfl]
      have hf : f0_force_0 k v1 = some (fF (v1 (90 + 9 * k + 2)) (v1 (90 + 9 * k + 5))) := by
        have := fo_c (q := v1) (c := k) (a0 := v1 (90 + 9 * k + 0)) (a1 := v1 (90 + 9 * k + 1)) (a2 := v1 (90 + 9 * k + 2)) (a3 := v1 (90 + 9 * k + 3)) (a4 := v1 (90 + 9 * k + 4)) (a5 := v1 (90 + 9 * k + 5)) (a6 := v1 (90 + 9 * k + 6)) (a7 := v1 (90 + 9 * k + 7)) (a8 := v1 (90 + 9 * k + 8))
        rw [← s9_of] at this
        exact this
      have hm : f5_force_0 v1 (nI k) = some (fF (v1 (90 + 9 * k + 2)) (v1 (90 + 9 * k + 5))) := by
        have := fo_m (q := v1) (c := k) (a0 := v1 (90 + 9 * k + 0)) (a1 := v1 (90 + 9 * k + 1)) (a2 := v1 (90 + 9 * k + 2)) (a3 := v1 (90 + 9 * k + 3)) (a4 := v1 (90 + 9 * k + 4)) (a5 := v1 (90 + 9 * k + 5)) (a6 := v1 (90 + 9 * k + 6)) (a7 := v1 (90 + 9 * k + 7)) (a8 := v1 (90 + 9 * k + 8)) (by omega)
        rw [← s9_of] at this
        exact this
      obtain ⟨j, hj, rfl⟩ := rng_k 9 (by omega) hy
      unfold f5_carOf_81
      rw [gd_n (by omega) (by omega), cl_n (by omega)]
      unfold f0_number_0
      obtain rfl | rfl | rfl | rfl | rfl | rfl | rfl | rfl | rfl | rfl : j = 0 ∨ j = 1 ∨ j = 2 ∨ j = 3 ∨ j = 4 ∨ j = 5 ∨ j = 6 ∨ j = 7 ∨ j = 8 ∨ j = 9 := by omega
      · simp (disch := omega) only [if_pos (show nI 0 = 0 by decide), ob, if_neg (show ¬ (6 : Int32) ≤ nI 0 by decide), e5_n, gd_n, cl_n]
        exact ⟨_, _, _, rfl, rfl, rel_8 hR, Or.inl ⟨rfl, u8 v0 0, rfl⟩⟩
      · simp (disch := omega) only [if_neg (show ¬ nI 1 = 0 by decide), if_pos (show nI 1 = 1 by decide), ob, if_neg (show ¬ (6 : Int32) ≤ nI 1 by decide), e5_n, gd_n, cl_n]
        exact ⟨_, _, _, rfl, rfl, rel_8 hR, Or.inl ⟨rfl, u8 v0 0, rfl⟩⟩
      · simp (disch := omega) only [if_neg (show ¬ nI 2 = 0 by decide), if_neg (show ¬ nI 2 = 1 by decide), if_pos (show nI 2 = 2 by decide), ob, if_neg (show ¬ (6 : Int32) ≤ nI 2 by decide), e5_n, gd_n, cl_n]
        exact ⟨_, _, _, rfl, rfl, rel_8 hR, Or.inl ⟨rfl, u8 v0 0, rfl⟩⟩
      · simp (disch := omega) only [if_neg (show ¬ nI 3 = 0 by decide), if_neg (show ¬ nI 3 = 1 by decide), if_neg (show ¬ nI 3 = 2 by decide), if_pos (show nI 3 = 3 by decide), ob, if_neg (show ¬ (6 : Int32) ≤ nI 3 by decide), e5_n, gd_n, cl_n]
        exact ⟨_, _, _, rfl, rfl, rel_8 hR, Or.inl ⟨rfl, u8 v0 0, rfl⟩⟩
      · simp (disch := omega) only [if_neg (show ¬ nI 4 = 0 by decide), if_neg (show ¬ nI 4 = 1 by decide), if_neg (show ¬ nI 4 = 2 by decide), if_neg (show ¬ nI 4 = 3 by decide), if_pos (show nI 4 = 4 by decide), ob, if_neg (show ¬ (6 : Int32) ≤ nI 4 by decide), e5_n, gd_n, cl_n]
        exact ⟨_, _, _, rfl, rfl, rel_8 hR, Or.inl ⟨rfl, u8 v0 0, rfl⟩⟩
      · simp (disch := omega) only [if_neg (show ¬ nI 5 = 0 by decide), if_neg (show ¬ nI 5 = 1 by decide), if_neg (show ¬ nI 5 = 2 by decide), if_neg (show ¬ nI 5 = 3 by decide), if_neg (show ¬ nI 5 = 4 by decide), if_pos (show nI 5 = 5 by decide), ob, if_neg (show ¬ (6 : Int32) ≤ nI 5 by decide), e5_n, gd_n, cl_n]
        exact ⟨_, _, _, rfl, rfl, rel_8 hR, Or.inl ⟨rfl, u8 v0 0, rfl⟩⟩
      · rw [hf, hm]
        simp only [if_neg (show ¬ nI 6 = 0 by decide), if_neg (show ¬ nI 6 = 1 by decide), if_neg (show ¬ nI 6 = 2 by decide), if_neg (show ¬ nI 6 = 3 by decide), if_neg (show ¬ nI 6 = 4 by decide), if_neg (show ¬ nI 6 = 5 by decide), if_pos (show nI 6 = 6 by decide), ob, if_pos (show (6 : Int32) ≤ nI 6 by decide), if_pos (show nI 6 = 6 by decide)]
        exact ⟨_, _, _, rfl, rfl, rel_8 hR, Or.inl ⟨rfl, u8 v0 0, rfl⟩⟩
      · simp (disch := omega) only [if_neg (show ¬ nI 7 = 0 by decide), if_neg (show ¬ nI 7 = 1 by decide), if_neg (show ¬ nI 7 = 2 by decide), if_neg (show ¬ nI 7 = 3 by decide), if_neg (show ¬ nI 7 = 4 by decide), if_neg (show ¬ nI 7 = 5 by decide), if_neg (show ¬ nI 7 = 6 by decide), if_pos (show nI 7 = 7 by decide), ob, if_pos (show (6 : Int32) ≤ nI 7 by decide), if_neg (show ¬ nI 7 = 6 by decide), (show nI 7 - 1 = nI 6 by decide), e5_n, gd_n, cl_n]
        exact ⟨_, _, _, rfl, rfl, rel_8 hR, Or.inl ⟨rfl, u8 v0 0, rfl⟩⟩
      · simp (disch := omega) only [if_neg (show ¬ nI 8 = 0 by decide), if_neg (show ¬ nI 8 = 1 by decide), if_neg (show ¬ nI 8 = 2 by decide), if_neg (show ¬ nI 8 = 3 by decide), if_neg (show ¬ nI 8 = 4 by decide), if_neg (show ¬ nI 8 = 5 by decide), if_neg (show ¬ nI 8 = 6 by decide), if_neg (show ¬ nI 8 = 7 by decide), if_pos (show nI 8 = 8 by decide), ob, if_pos (show (6 : Int32) ≤ nI 8 by decide), if_neg (show ¬ nI 8 = 6 by decide), (show nI 8 - 1 = nI 7 by decide), e5_n, gd_n, cl_n]
        exact ⟨_, _, _, rfl, rfl, rel_8 hR, Or.inl ⟨rfl, u8 v0 0, rfl⟩⟩
      · simp (disch := omega) only [if_neg (show ¬ nI 9 = 0 by decide), if_neg (show ¬ nI 9 = 1 by decide), if_neg (show ¬ nI 9 = 2 by decide), if_neg (show ¬ nI 9 = 3 by decide), if_neg (show ¬ nI 9 = 4 by decide), if_neg (show ¬ nI 9 = 5 by decide), if_neg (show ¬ nI 9 = 6 by decide), if_neg (show ¬ nI 9 = 7 by decide), if_neg (show ¬ nI 9 = 8 by decide), ob, if_pos (show (6 : Int32) ≤ nI 9 by decide), if_neg (show ¬ nI 9 = 6 by decide), (show nI 9 - 1 = nI 8 by decide), e5_n, gd_n, cl_n]
        exact ⟨_, _, _, rfl, rfl, rel_8 hR, Or.inl ⟨rfl, u8 v0 0, rfl⟩⟩
    · rw [b01_f hy, if_pos rfl, if_pos rfl, rf_2, ob, if_neg n10]
      exact ⟨_, _, _, rfl, rfl, rel_8 hR, Or.inr (Or.inr ⟨rfl, u8 v0 2⟩)⟩
  · rw [b01_f hx, if_pos rfl, if_pos rfl, rf_1, ob, if_neg n10]
    exact ⟨_, _, _, rfl, rfl, rel_8 hR, Or.inr (Or.inl ⟨rfl, u8 v0 1⟩)⟩
