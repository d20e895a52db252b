/-! spring -/
theorem sml_40 {y : Int32} (h : 0 ≤ y ∧ y ≤ 40) : sml y 40 := by
  obtain ⟨k, hk, rfl⟩ := rng_k 40 (by omega) h
  exact sml_n hk
theorem ct_sw {w : Nat → Int32} {i : Nat} {y : Int32} (hI : Inv w) (hi : i < 30) (hc : y = 0 ∨ ¬ w (30 + i) = 0 ∨ ctN (isSw w) 30 < 4) : ctN (isSw (upd w (30 + i) y)) 30 ≤ 4 := by
  have h4 : ctN (isSw w) 30 ≤ 4 := hI.2.2.2.2.2.1
  have hd : ∀ d, d < 30 → d ≠ i → isSw (upd w (30 + i) y) d = isSw w d := by
    intro d _ hd
    unfold isSw
    rw [upd_n (by omega)]
  rcases hc with h | h | h
  · subst h
    refine Nat.le_trans (ct_mono (fun d hd30 hp => ?_)) h4
    by_cases e : d = i
    · subst e
      unfold isSw at hp
      rw [upd_s] at hp
      exact absurd hp (by decide)
    · rw [hd d hd30 e] at hp; exact hp
  · refine Nat.le_trans (ct_mono (fun d hd30 hp => ?_)) h4
    by_cases e : d = i
    · subst e
      have hs := sml_i (hI.2.2.2.2.1 d hd30) (by omega)
      have h0 : ¬ (w (30 + d)).toInt = (0 : Int32).toInt := fun q => h (i_eq.mpr q)
      rw [show (0 : Int32).toInt = 0 from rfl] at h0
      exact decide_eq_true (by rw [i_lt, show (0 : Int32).toInt = 0 from rfl]; omega)
    · rw [hd d hd30 e] at hp; exact hp
  · have := ct_upd (i := i) (n := 30) hd
    omega
theorem q_spring {mu : Nat → Nat → Int32} {v0 v1 v3 v4 v5 v6 : Nat → Int32} (x y : Int32) (h : Rel mu v0 v1 v3 v4 v5 v6) :
    ∃ t r v0' v1' v3', f4_spring_0 x y mu = some t ∧ f5_spring_0 x y v0 v1 v3 = some (r, v0', v1', v3') ∧ Rel t.2.2 v0' v1' v3' v4 v5 v6 ∧
      (t.1 = 0 ∧ v0' 8 = 0 ∧ t.2.1 = r ∨ t.1 = 1 ∧ v0' 8 = 1 ∨ t.1 = 2 ∧ v0' 8 = 2 ∨ t.1 = 3 ∧ v0' 8 = 3) := by
  have hR := h
  obtain ⟨h1, h2, h3, h4, h5⟩ := h
  have hI : Inv v1 := h1 ▸ h2 0 (by omega)
  unfold f4_spring_0 f5_spring_0 f4_spring_15
  rw [rgq 1 29 30 _ _ rfl, in_s, ob]
  by_cases hx : 1 ≤ x ∧ x ≤ 29
  · rw [if_pos hx, b01_t hx, if_neg n10]
    have hx0 : (0 : Int32) ≤ x := by have := i_le.mp hx.1; rw [i_le]; rw [show (1 : Int32).toInt = 1 from rfl] at this; rw [show (0 : Int32).toInt = 0 from rfl]; omega
    obtain ⟨i, hi, rfl⟩ := rng_k 29 (by omega) ⟨hx0, hx.2⟩
    unfold f4_spring_16
    rw [if_neg n10, iw_s, in_s, ob, ob]
    by_cases hy : 0 ≤ y ∧ y ≤ 40
    · rw [b01_t hy, if_neg n10, if_neg n10]
      simp (disch := omega) only [gd_n, cl_n, ar_30, h1, sc_s, sw_s, ob]
      have go : (y = 0 ∨ ¬ v1 (30 + i) = 0 ∨ ctN (isSw v1) 30 < 4) → ∃ t r v0' v1' v3', f4_spring_58 (nI i) y (v1 (30 + i)) mu = some t ∧ f5_spring_59 (nI i) y v0 v1 v3 = some (r, v0', v1', v3') ∧ Rel t.2.2 v0' v1' v3' v4 v5 v6 ∧
          (t.1 = 0 ∧ v0' 8 = 0 ∧ t.2.1 = r ∨ t.1 = 1 ∧ v0' 8 = 1 ∨ t.1 = 2 ∧ v0' 8 = 2 ∨ t.1 = 3 ∧ v0' 8 = 3) := by
        intro hc
        unfold f4_spring_58 f5_spring_59 f4_spring_63 f5_spring_60
        rw [if_neg n10, rf_0, ob, if_pos rfl]
        obtain ⟨mu', v0', v3', g1, g2, g3, g4, g5, g6⟩ := rel_p (rel_8 (x := 0) hR)
        show ∃ t r v0' v1' v3', _ ∧ Option.bind (f5_saves_0 v1 (upd v0 8 0) v3) _ = some (r, v0', v1', v3') ∧ _
        rw [g1, ob, g2, ob]
        simp (disch := omega) only [gd_n, cl_n, ar_30]
        refine ⟨_, _, _, _, _, rfl, rfl, ?_, Or.inl ⟨rfl, ?_, rfl⟩⟩
        · show Rel (s1 mu' 0 (upd (mu' 0) (30 + i) y)) _ _ _ _ _ _
          rw [g4]
          exact rel_s g3 (inv_limit hI (by omega) (sml_40 hy) (ct_sw hI (by omega) hc))
        · show v0' 8 = 0
          rw [g6 8 (by omega), upd_s]
      have hyz : y ≤ 0 ↔ y = 0 := by
        have := i_le.mp hy.1
        rw [i_le, i_eq]
        omega
      by_cases hy0 : y = 0
      · rw [if_pos hy0, if_pos (hyz.mpr hy0)]
        exact go (Or.inl hy0)
      · rw [if_neg hy0, if_neg (fun q => hy0 (hyz.mp q))]
        by_cases hl : v1 (30 + i) = 0
        · rw [if_pos hl, if_pos hl]
          have h4 : ctN (isSw v1) 30 ≤ 4 := hI.2.2.2.2.2.1
          by_cases hc : ctN (isSw v1) 30 = 4
          · rw [hc, if_pos (by decide), if_pos (by decide)]
            unfold f4_spring_63 f5_spring_60
            rw [if_pos rfl, rf_3, ob, if_neg n10]
            exact ⟨_, _, _, _, _, rfl, rfl, rel_8 hR, Or.inr (Or.inr (Or.inr ⟨rfl, u8 v0 3⟩))⟩
          · rw [if_neg (by rw [show (4 : Int32) = nI 4 from rfl, n_le (by omega) (by omega)]; omega), if_neg (by rw [show (4 : Int32) = nI 4 from rfl, n_eq (by omega) (by omega)]; omega)]
            exact go (Or.inr (Or.inr (by omega)))
        · rw [if_neg hl, if_neg hl]
          exact go (Or.inr (Or.inl hl))
    · rw [b01_f hy, if_pos rfl, if_pos rfl]
      unfold f5_spring_60
      rw [rf_2, ob, if_neg n10]
      exact ⟨_, _, _, _, _, rfl, rfl, rel_8 hR, Or.inr (Or.inr (Or.inl ⟨rfl, u8 v0 2⟩))⟩
  · rw [if_neg hx, b01_f hx, if_pos rfl]
    unfold f4_spring_16 f5_spring_60
    rw [if_pos rfl, rf_1, ob, if_neg n10]
    exact ⟨_, _, _, _, _, rfl, rfl, rel_8 hR, Or.inr (Or.inl ⟨rfl, u8 v0 1⟩)⟩
/-! car -/
theorem inv_N {w : Nat → Int32} (h : Inv w) : ∃ N, N ≤ 8 ∧ w 162 = nI N := by
  obtain ⟨k, hk, e⟩ := h.1
  exact ⟨k, hk, e⟩
theorem q_car {mu : Nat → Nat → Int32} {v0 v1 v3 v4 v5 v6 : Nat → Int32} (h : Rel mu v0 v1 v3 v4 v5 v6) :
    ∃ t r v0' v1' v3', f4_car_0 mu = some t ∧ f5_car_0 v0 v1 v3 = some (r, v0', v1', v3') ∧ Rel t.2.2 v0' v1' v3' v4 v5 v6 ∧
      (t.1 = 0 ∧ v0' 8 = 0 ∧ t.2.1 = r ∨ t.1 = 3 ∧ v0' 8 = 1) := by
  have hR := h
  obtain ⟨h1, h2, h3, h4, h5⟩ := h
  have hI : Inv v1 := h1 ▸ h2 0 (by omega)
  obtain ⟨N, hN, hw⟩ := inv_N hI
  unfold f4_car_0 f5_car_0 f4_car_17 f5_car_19
  simp only [gdm162, cl162, h1, hw]
  by_cases h8 : N = 8
  · subst h8
    rw [if_pos (show (8 : Int32) ≤ nI 8 by decide), if_pos trivial, if_pos (show nI 8 = 8 by decide), rf_1, ob, if_neg n10]
    exact ⟨_, _, _, _, _, rfl, rfl, rel_8 hR, Or.inr ⟨rfl, u8 v0 1⟩⟩
  · rw [if_neg (by rw [show (8 : Int32) = nI 8 from rfl, n_le (by omega) (by omega)]; omega), if_neg n10, if_neg (show ¬ nI N = 8 by rw [show (8 : Int32) = nI 8 from rfl, n_eq (by omega) (by omega)]; omega), rf_0, ob, if_pos rfl]
    obtain ⟨mu', v0', v3', g1, g2, g3, g4, g5, g6⟩ := rel_p (rel_8 (x := 0) hR)
    obtain ⟨w', a1, a2, a3, a4⟩ := ad_s hI (by omega) hw
    show ∃ t r v0' v1' v3', _ ∧ Option.bind (f5_saves_0 v1 (upd v0 8 0) v3) _ = some (r, v0', v1', v3') ∧ _
    rw [g1, ob, g2, ob, g4, a1, ob, a2, ob]
    refine ⟨_, _, _, _, _, rfl, rfl, rel_s g3 a3, Or.inl ⟨rfl, ?_, rfl⟩⟩
    show v0' 8 = 0
    rw [g6 8 (by omega), upd_s]
/-! load, release, brake, pull -/
theorem can_s {w : Nat → Int32} {N k : Nat} {x : Int32} (hN : N ≤ 8) (hw : w 162 = nI N) (hk : k < N) : f3_canLoad_0 w (nI k) x = some (b01 (w (90 + 9 * k + 0) = 0 ∧ ¬ 20 < w (90 + 9 * k + 1) + x)) := by
  unfold f3_canLoad_0 f3_canLoad_40 f3_canLoad_41
  rw [hasC_s hN hw hk, ob, if_neg n10]
  simp (disch := omega) only [gd_n, cl_n, gz_0, gz_1]
  by_cases h0 : w (90 + 9 * k + 0) = 0
  · rw [if_pos h0]
    by_cases h1 : 20 < w (90 + 9 * k + 1) + x
    · rw [if_pos h1, b01_f (fun q => q.2 h1)]
    · rw [if_neg h1, b01_t ⟨h0, h1⟩]
  · rw [if_neg h0, b01_f (fun q => h0 q.1)]
theorem bl_s {w : Nat → Int32} {N k : Nat} {x : Int32} (hN : N ≤ 8) (hw : w 162 = nI N) (hk : k < N) (hx : 1 ≤ x ∧ x ≤ 20) : f5_barLoad_0 w (nI k) x = some (if w (90 + 9 * k + 0) = 0 ∧ ¬ 20 < w (90 + 9 * k + 1) + x then 0 else 3) := by
  unfold f5_barLoad_0 f5_barLoad_52 f5_barLoad_57
  rw [isCar_s hN hw, b01_t (k_car hN hk), ob, if_neg n10, in_s, b01_t hx, ob, if_neg n10]
  simp (disch := omega) only [isIn_o, ob, b01_0, e5_1, gd_n, cl_n]
  by_cases h0 : w (90 + 9 * k + 0) = 0
  · rw [if_neg (fun q => q h0)]
    by_cases h1 : 20 < w (90 + 9 * k + 1) + x
    · rw [if_neg (fun q => not_le_lt.mpr h1 q), if_neg (fun q => q.2 h1)]
    · rw [if_pos (not_lt_le.mp h1), if_pos ⟨h0, h1⟩]
  · rw [if_pos h0, if_neg (fun q => h0 q.1)]
theorem ore_ok {a x : Int32} (ha : sml a 20) (hx : 1 ≤ x ∧ x ≤ 20) (h : ¬ 20 < a + x) : sml (a + x) 20 := by
  have k := sml_i ha (by omega)
  have x1 := i_le.mp hx.1
  have x2 := i_le.mp hx.2
  rw [show (1 : Int32).toInt = 1 from rfl] at x1
  rw [show (20 : Int32).toInt = 20 from rfl] at x2
  have e := i_add (a := a) (b := x) (by omega) (by omega)
  have h' : ¬ (20 : Int32).toInt < (a + x).toInt := fun q => h (i_lt.mpr q)
  rw [show (20 : Int32).toInt = 20 from rfl] at h'
  exact sml_of (by omega) (by omega) (by omega)
theorem q_load {mu : Nat → Nat → Int32} {v0 v1 v3 v4 v5 v6 : Nat → Int32} (x y : Int32) (h : Rel mu v0 v1 v3 v4 v5 v6) :
    ∃ t r v0' v1' v3', f4_load_0 x y mu = some t ∧ f5_load_0 x y v0 v1 v3 = some (r, v0', v1', v3') ∧ Rel t.2.2 v0' v1' v3' v4 v5 v6 ∧
      (t.1 = 0 ∧ v0' 8 = 0 ∧ t.2.1 = r ∨ t.1 = 1 ∧ v0' 8 = 1 ∨ t.1 = 2 ∧ v0' 8 = 2 ∨ t.1 = 3 ∧ v0' 8 = 3) := by
  have hR := h
  obtain ⟨h1, h2, h3, h4, h5⟩ := h
  have hI : Inv v1 := h1 ▸ h2 0 (by omega)
  obtain ⟨N, hN, hw⟩ := inv_N hI
  unfold f4_load_0 f5_load_0
  rw [h1, hasCar_s hN hw, ob]
  by_cases hx : 0 ≤ x ∧ x < nI N
  · rw [b01_t hx, if_neg n10]
    obtain ⟨k, hk, rfl⟩ := car_k hN hx
    rw [iw_s, ob]
    by_cases hy : 1 ≤ y ∧ y ≤ 20
    · rw [b01_t hy, if_neg n10, can_s hN hw hk, ob, bl_s hN hw hk hy, ob]
      by_cases hc : v1 (90 + 9 * k + 0) = 0 ∧ ¬ 20 < v1 (90 + 9 * k + 1) + y
      · rw [b01_t hc, if_neg n10, if_pos hc, rf_0, ob, if_pos rfl]
        obtain ⟨mu', v0', v3', g1, g2, g3, g4, g5, g6⟩ := rel_p (rel_8 (x := 0) hR)
        obtain ⟨r, w', a1, a2, a3, a4⟩ := lo_s hI (by omega) (ore_ok (inv_c hI (c := k) (by omega)).2.1 hy hc.2)
        show ∃ t r v0' v1' v3', _ ∧ Option.bind (f5_saves_0 v1 (upd v0 8 0) v3) _ = some (r, v0', v1', v3') ∧ _
        rw [g1, ob, g2, ob, g4, a1, ob, a2, ob]
        refine ⟨_, _, _, _, _, rfl, rfl, rel_s g3 a3, Or.inl ⟨rfl, ?_, rfl⟩⟩
        show v0' 8 = 0
        rw [g6 8 (by omega), upd_s]
      · rw [b01_f hc, if_pos rfl, if_neg hc, rf_3, ob, if_neg n10]
        exact ⟨_, _, _, _, _, rfl, rfl, rel_8 hR, Or.inr (Or.inr (Or.inr ⟨rfl, u8 v0 3⟩))⟩
    · rw [b01_f hy, if_pos rfl]
      unfold f5_barLoad_0 f5_barLoad_57
      rw [isCar_s hN hw, b01_t hx, ob, if_neg n10, in_s, b01_f hy, ob, if_pos rfl, ob, rf_2, ob, if_neg n10]
      exact ⟨_, _, _, _, _, rfl, rfl, rel_8 hR, Or.inr (Or.inr (Or.inl ⟨rfl, u8 v0 2⟩))⟩
  · rw [b01_f hx, if_pos rfl]
    unfold f5_barLoad_0 f5_barLoad_57
    rw [isCar_s hN hw, b01_f hx, ob, if_pos rfl, ob, rf_1, ob, if_neg n10]
    exact ⟨_, _, _, _, _, rfl, rfl, rel_8 hR, Or.inr (Or.inl ⟨rfl, u8 v0 1⟩)⟩
theorem ibr_s {y : Int32} : f5_isBrake_0 y = some (b01 (0 ≤ y ∧ y ≤ 9)) := by
  unfold f5_isBrake_0
  rw [in_s, ob, gz_b]
theorem q_release {mu : Nat → Nat → Int32} {v0 v1 v3 v4 v5 v6 : Nat → Int32} (x y : Int32) (h : Rel mu v0 v1 v3 v4 v5 v6) :
    ∃ t r v0' v1' v3', f4_release_0 x y mu = some t ∧ f5_release_0 x y v0 v1 v3 = some (r, v0', v1', v3') ∧ Rel t.2.2 v0' v1' v3' v4 v5 v6 ∧
      (t.1 = 0 ∧ v0' 8 = 0 ∧ t.2.1 = r ∨ t.1 = 1 ∧ v0' 8 = 1 ∨ t.1 = 2 ∧ v0' 8 = 2) := by
  have hR := h
  obtain ⟨h1, h2, h3, h4, h5⟩ := h
  have hI : Inv v1 := h1 ▸ h2 0 (by omega)
  obtain ⟨N, hN, hw⟩ := inv_N hI
  unfold f4_release_0 f5_release_0 f5_release_25
  rw [h1, hasCar_s hN hw, ob, isCar_s hN hw, ob]
  by_cases hx : 0 ≤ x ∧ x < nI N
  · rw [b01_t hx, if_neg n10, if_neg n10]
    obtain ⟨k, hk, rfl⟩ := car_k hN hx
    rw [iw_s, ob, ibr_s, ob]
    by_cases hy : 0 ≤ y ∧ y ≤ 9
    · rw [b01_t hy, if_neg n10, if_neg n10, rf_0, ob, if_pos rfl]
      obtain ⟨mu', v0', v3', g1, g2, g3, g4, g5, g6⟩ := rel_p (rel_8 (x := 0) hR)
      obtain ⟨r, w', a1, a2, a3, a4⟩ := lr_s hI hN hw hk (sml_9 hy)
      show ∃ t r v0' v1' v3', _ ∧ Option.bind (f5_saves_0 v1 (upd v0 8 0) v3) _ = some (r, v0', v1', v3') ∧ _
      rw [g1, ob, g2, ob, g4, a1, ob, a2, ob]
      refine ⟨_, _, _, _, _, rfl, rfl, rel_s g3 a3, Or.inl ⟨rfl, ?_, rfl⟩⟩
      show v0' 8 = 0
      rw [g6 8 (by omega), upd_s]
    · rw [b01_f hy, if_pos rfl, if_pos rfl, rf_2, ob, if_neg n10]
      exact ⟨_, _, _, _, _, rfl, rfl, rel_8 hR, Or.inr (Or.inr ⟨rfl, u8 v0 2⟩)⟩
  · rw [b01_f hx, if_pos rfl, if_pos rfl, rf_1, ob, if_neg n10]
    exact ⟨_, _, _, _, _, rfl, rfl, rel_8 hR, Or.inr (Or.inl ⟨rfl, u8 v0 1⟩)⟩
theorem ro_s {w : Nat → Int32} {N k : Nat} (hN : N ≤ 8) (hw : w 162 = nI N) (hk : k < N) : f3_isRolling_0 w (nI k) = some (b01 (w (90 + 9 * k + 0) = 1)) := by
  unfold f3_isRolling_0 f3_isRolling_25 f3_isRolling_26
  rw [hasC_s hN hw hk, ob, if_neg n10]
  simp (disch := omega) only [gd_n, cl_n, gz_0, gz_1]
  by_cases h0 : w (90 + 9 * k + 0) = 1
  · rw [if_pos h0, b01_t h0]
  · rw [if_neg h0, b01_f h0]
theorem q_brake {mu : Nat → Nat → Int32} {v0 v1 v3 v4 v5 v6 : Nat → Int32} (x y : Int32) (h : Rel mu v0 v1 v3 v4 v5 v6) :
    ∃ t r v0' v1' v3', f4_brake_0 x y mu = some t ∧ f5_brake_0 x y v0 v1 v3 = some (r, v0', v1', v3') ∧ Rel t.2.2 v0' v1' v3' v4 v5 v6 ∧
      (t.1 = 0 ∧ v0' 8 = 0 ∧ t.2.1 = r ∨ t.1 = 1 ∧ v0' 8 = 1 ∨ t.1 = 2 ∧ v0' 8 = 2 ∨ t.1 = 3 ∧ v0' 8 = 3) := by
  have hR := h
  obtain ⟨h1, h2, h3, h4, h5⟩ := h
  have hI : Inv v1 := h1 ▸ h2 0 (by omega)
  obtain ⟨N, hN, hw⟩ := inv_N hI
  unfold f4_brake_0 f5_brake_0 f5_barBrake_0 f5_barBrake_37
  rw [h1, hasCar_s hN hw, ob, isCar_s hN hw, ob]
  by_cases hx : 0 ≤ x ∧ x < nI N
  · rw [b01_t hx, if_neg n10, if_neg n10]
    obtain ⟨k, hk, rfl⟩ := car_k hN hx
    rw [iw_s, ob, ibr_s, ob]
    by_cases hy : 0 ≤ y ∧ y ≤ 9
    · rw [b01_t hy, if_neg n10, if_neg n10, ro_s hN hw hk, ob, isIn_o (by omega), ob]
      by_cases hr : v1 (90 + 9 * k + 0) = 1
      · rw [b01_t hr, if_neg n10, if_neg n10, ob, rf_0, ob, if_pos rfl]
        obtain ⟨mu', v0', v3', g1, g2, g3, g4, g5, g6⟩ := rel_p (rel_8 (x := 0) hR)
        obtain ⟨r, w', a1, a2, a3, a4⟩ := cb_s hI (show k < 8 by omega) (sml_9 hy)
        show ∃ t r v0' v1' v3', _ ∧ Option.bind (f5_saves_0 v1 (upd v0 8 0) v3) _ = some (r, v0', v1', v3') ∧ _
        rw [g1, ob, g2, ob, g4, a1, ob, a2, ob]
        refine ⟨_, _, _, _, _, rfl, rfl, rel_s g3 a3, Or.inl ⟨rfl, ?_, rfl⟩⟩
        show v0' 8 = 0
        rw [g6 8 (by omega), upd_s]
      · rw [b01_f hr, if_pos rfl, if_pos rfl, ob, rf_3, ob, if_neg n10]
        exact ⟨_, _, _, _, _, rfl, rfl, rel_8 hR, Or.inr (Or.inr (Or.inr ⟨rfl, u8 v0 3⟩))⟩
    · rw [b01_f hy, if_pos rfl, if_pos rfl, ob, rf_2, ob, if_neg n10]
      exact ⟨_, _, _, _, _, rfl, rfl, rel_8 hR, Or.inr (Or.inr (Or.inl ⟨rfl, u8 v0 2⟩))⟩
  · rw [b01_f hx, if_pos rfl, if_pos rfl, ob, rf_1, ob, if_neg n10]
    exact ⟨_, _, _, _, _, rfl, rfl, rel_8 hR, Or.inr (Or.inl ⟨rfl, u8 v0 1⟩)⟩
theorem q_pull {mu : Nat → Nat → Int32} {v0 v1 v3 v4 v5 v6 : Nat → Int32} (x : Int32) (h : Rel mu v0 v1 v3 v4 v5 v6) :
    ∃ t r v0' v1' v3', f4_pull_0 x mu = some t ∧ f5_pull_0 x v0 v1 v3 = some (r, v0', v1', v3') ∧ Rel t.2.2 v0' v1' v3' v4 v5 v6 ∧
      (t.1 = 0 ∧ v0' 8 = 0 ∧ t.2.1 = r ∨ t.1 = 1 ∧ v0' 8 = 1) := by
  have hR := h
  obtain ⟨h1, h2, h3, h4, h5⟩ := h
  have hI : Inv v1 := h1 ▸ h2 0 (by omega)
  obtain ⟨N, hN, hw⟩ := inv_N hI
  unfold f4_pull_0 f5_pull_0 f5_pull_14
  rw [h1, hasCar_s hN hw, ob, isCar_s hN hw, ob]
  by_cases hx : 0 ≤ x ∧ x < nI N
  · rw [b01_t hx, if_neg n10, if_neg n10]
    obtain ⟨k, hk, rfl⟩ := car_k hN hx
    rw [rf_0, ob, if_pos rfl]
    obtain ⟨mu', v0', v3', g1, g2, g3, g4, g5, g6⟩ := rel_p (rel_8 (x := 0) hR)
    obtain ⟨r, w', a1, a2, a3, a4⟩ := hm_s hI hN hw hk
    show ∃ t r v0' v1' v3', _ ∧ Option.bind (f5_saves_0 v1 (upd v0 8 0) v3) _ = some (r, v0', v1', v3') ∧ _
    rw [g1, ob, g2, ob, g4, a1, ob, a2, ob]
    refine ⟨_, _, _, _, _, rfl, rfl, rel_s g3 a3, Or.inl ⟨rfl, ?_, rfl⟩⟩
    show v0' 8 = 0
    rw [g6 8 (by omega), upd_s]
  · rw [b01_f hx, if_pos rfl, if_pos rfl, rf_1, ob, if_neg n10]
    exact ⟨_, _, _, _, _, rfl, rfl, rel_8 hR, Or.inr ⟨rfl, u8 v0 1⟩⟩
/-! run -/
theorem q_run {mu : Nat → Nat → Int32} {v0 v1 v3 v4 v5 v6 v7 v8 : Nat → Int32} (x : Int32) (h : Rel mu v0 v1 v3 v4 v5 v6) :
    ∃ t r v0' v1' v3' v7' v8', f4_run_0 x mu = some t ∧ f5_run_0 x v0 v1 v3 v7 v8 = some (r, v0', v1', v3', v7', v8') ∧ Rel t.2.2 v0' v1' v3' v4 v5 v6 ∧
      (t.1 = 0 ∧ v0' 8 = 0 ∧ t.2.1 = r ∨ t.1 = 2 ∧ v0' 8 = 1) := by
  have hR := h
  obtain ⟨h1, h2, h3, h4, h5⟩ := h
  have hI : Inv v1 := h1 ▸ h2 0 (by omega)
  obtain ⟨N, hN, hw⟩ := inv_N hI
  unfold f4_run_0 f5_run_0 f5_run_16
  rw [iw_s, ob, in_s, ob]
  by_cases hx : 1 ≤ x ∧ x ≤ 60
  · rw [b01_t hx, if_neg n10, if_neg n10, rf_0, ob, if_pos rfl]
    have hx0 : (0 : Int32) ≤ x := by have := i_le.mp hx.1; rw [i_le]; rw [show (1 : Int32).toInt = 1 from rfl] at this; rw [show (0 : Int32).toInt = 0 from rfl]; omega
    obtain ⟨T, hT, rfl⟩ := rng_k 60 (by omega) ⟨hx0, hx.2⟩
    obtain ⟨mu', v0', v3', g1, g2, g3, g4, g5, g6⟩ := rel_p (rel_8 (x := 0) hR)
    obtain ⟨w', a2, a7, a8, e1, e2, e3, e4⟩ := ts_s (v2 := mu' 20) (v7 := v7) (v8 := v8) hI hN hw (show T < 999 by omega)
    show ∃ t r v0' v1' v3' v7' v8', _ ∧ Option.bind (f5_saves_0 v1 (upd v0 8 0) v3) _ = some (r, v0', v1', v3', v7', v8') ∧ _
    rw [g1, ob, g2, ob, g4]
    show ∃ t r v0' v1' v3' v7' v8', Option.bind (f3_passTicks_0 (nI T) v1 (mu' 20)) _ = some t ∧ _
    rw [e1, ob, e2, ob]
    refine ⟨_, _, _, _, _, _, _, rfl, rfl, rel_s (rel_m g3 (by omega)) e3, Or.inl ⟨rfl, ?_, ?_⟩⟩
    · show v0' 8 = 0
      rw [g6 8 (by omega), upd_s]
    · show s1 _ 0 w' 0 165 - v1 165 = w' 165 - v1 165
      rw [s1_k]
  · rw [b01_f hx, if_pos rfl, if_pos rfl, rf_1, ob, if_neg n10]
    exact ⟨_, _, _, _, _, _, _, rfl, rfl, rel_8 hR, Or.inr ⟨rfl, u8 v0 1⟩⟩
