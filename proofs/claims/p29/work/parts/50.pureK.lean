/-! rolling -/
theorem rl_l {mu : Nat → Nat → Int32} {w : Nat → Int32} {N : Nat} {x : Int32} (h1 : mu 0 = w) (hI : Inv w) (hN : N ≤ 8) (hw : w 162 = nI N) : ∀ d j fuel, N - j = d → j ≤ N → d < fuel →
    ∃ a, f4_rolling_14 mu fuel x (nI j) = some a ∧ ((∃ c, c < N ∧ isSt w 1 c = true ∧ nI (rk w c N) = x ∧ a = (0, nI c)) ∨ (a = (0, -1) ∧ ∀ c, j ≤ c → c < N → isSt w 1 c = true → nI (rk w c N) ≠ x)) := by
  intro d
  induction d with
  | zero =>
    intro j fuel hd hj hf
    obtain ⟨m, rfl⟩ : ∃ m, fuel = m + 1 := ⟨fuel - 1, by omega⟩
    obtain rfl : j = N := by omega
    refine ⟨(0, -1), ?_, Or.inr ⟨rfl, fun c _ _ => by omega⟩⟩
    simp only [f4_rolling_14, h1, hw, if_pos (Int32.le_refl _)]
  | succ d ih =>
    intro j fuel hd hj hf
    obtain ⟨m, rfl⟩ : ∃ m, fuel = m + 1 := ⟨fuel - 1, by omega⟩
    obtain ⟨a, e, ha⟩ := ih (j + 1) m (by omega) (by omega) (by omega)
    have e0 : f4_rolling_14 mu (m + 1) x (nI j) = (if w (90 + 9 * j + 0) = 1 then (if nI (rk w j N) = x then some (0, nI j) else f4_rolling_14 mu m x (nI (j + 1))) else f4_rolling_14 mu m x (nI (j + 1))) := by
      simp (disch := omega) only [f4_rolling_14, f4_rolling_55, h1, hw, n_le, if_neg (show ¬ N ≤ j by omega), gd_n, cl_n, rk_s hI hN hw (show j < N by omega), ob, ad_1]
    rw [e0]
    by_cases hs : w (90 + 9 * j + 0) = 1
    · rw [if_pos hs]
      by_cases hr : nI (rk w j N) = x
      · rw [if_pos hr]
        exact ⟨_, rfl, Or.inl ⟨j, by omega, st_i.mpr hs, hr, rfl⟩⟩
      · rw [if_neg hr]
        refine ⟨a, e, ha.imp id (fun q => ⟨q.1, fun c hc hc2 hs2 => ?_⟩)⟩
        by_cases ec : c = j
        · subst ec; exact hr
        · exact q.2 c (by omega) hc2 hs2
    · rw [if_neg hs]
      refine ⟨a, e, ha.imp id (fun q => ⟨q.1, fun c hc hc2 hs2 => ?_⟩)⟩
      by_cases ec : c = j
      · subst ec; exact absurd (st_i.mp hs2) hs
      · exact q.2 c (by omega) hc2 hs2
theorem q_rolling {mu : Nat → Nat → Int32} {v0 v1 v3 v4 v5 v6 v7 : Nat → Int32} (x : Int32) (h : Rel mu v0 v1 v3 v4 v5 v6) :
    ∃ t r v0' v7', f4_rolling_0 mu x = some t ∧ f5_rolling_0 v1 x v0 v7 = some (r, v0', v7') ∧ Rel mu v0' v1 v3 v4 v5 v6 ∧
      (t.1 = 0 ∧ v0' 8 = 0 ∧ t.2 = r ∨ t.1 = 2 ∧ v0' 8 = 1) := by
  have hR := h
  obtain ⟨h1, h2, h3, h4, h5⟩ := h
  have hI : Inv v1 := h1 ▸ h2 0 (by omega)
  obtain ⟨N, hN, hw⟩ := inv_N hI
  have hn := nr_le (w := v1) (j := N)
  unfold f4_rolling_0 f5_rolling_0 f4_rolling_9 f5_rolling_10
  by_cases hx : x < 0
  · rw [if_pos hx, if_pos rfl, if_neg (fun q => not_lt_le.mpr q hx), rf_1, ob, if_neg n10]
    exact ⟨_, _, _, _, rfl, rfl, rel_8 hR, Or.inr ⟨rfl, u8 v0 1⟩⟩
  · have hx0 := not_lt_le.mp hx
    rw [if_neg hx, if_neg n10, if_pos hx0, rf_0, ob, if_pos rfl]
    obtain ⟨a7, n1, n2⟩ := no_s (v7 := v7) hN hw
    obtain ⟨a, e, ha⟩ := rl_l (x := x) h1 hI hN hw N 0 fu rfl (by omega) (by rw [fu_eq]; omega)
    have e' : f4_rolling_14 mu fu x 0 = some a := e
    rw [n1, ob, e']
    by_cases hl : nI (nr v1 N) ≤ x
    · rw [if_pos hl]
      unfold f5_rolling_38
      refine ⟨_, _, _, _, rfl, rfl, rel_8 hR, Or.inl ⟨?_, u8 v0 0, ?_⟩⟩
      all_goals
        rcases ha with ⟨c, hc, hs, hr, _⟩ | ⟨rfl, _⟩
        · have := rk_nr hc hs
          rw [← hr, n_le (by omega) (by omega)] at hl
          omega
        · rfl
    · rw [if_neg hl]
      obtain ⟨k, hk, rfl⟩ := car_k (N := nr v1 N) (by omega) ⟨hx0, not_le_lt.mp hl⟩
      obtain ⟨c, hc, hs, e7, hrk⟩ := n2 k hk
      unfold f5_rolling_38
      simp (disch := omega) only [gd_n, cl_n]
      have hac : a = (0, nI c) := by
        rcases ha with ⟨c', hc', hs', hr', rfl⟩ | ⟨rfl, hno⟩
        · have hb := rk_nr hc' hs'
          have := (n_eq (by omega) (by omega)).mp hr'
          rw [rk_inj hc' hc hs' hs (this.trans hrk.symm)]
        · exact absurd (by rw [hrk]) (hno c (by omega) hc hs)
      refine ⟨_, _, _, _, rfl, rfl, rel_8 hR, Or.inl ⟨?_, u8 v0 0, ?_⟩⟩
      · rw [hac]
      · rw [hac]; exact e7.symm
/-! count -/
theorem q_count {mu : Nat → Nat → Int32} {v0 v1 v3 v4 v5 v6 : Nat → Int32} (x : Int32) (h : Rel mu v0 v1 v3 v4 v5 v6) :
    ∃ t r v0', f4_count_0 mu x = some t ∧ f5_count_0 v1 x v0 = some (r, v0') ∧ Rel mu v0' v1 v3 v4 v5 v6 ∧
      (t.1 = 0 ∧ v0' 8 = 0 ∧ t.2 = r ∨ t.1 = 2 ∧ v0' 8 = 1) := by
  have hR := h
  obtain ⟨h1, h2, ⟨hx1, n, hx6, hn6, m1, m2, m3, hr⟩, h4, ⟨L, hL, l1, l2, l3⟩⟩ := h
  have hI : Inv v1 := h1 ▸ h2 0 (by omega)
  obtain ⟨N, hN, hw⟩ := inv_N hI
  unfold f4_count_0 f5_count_0 f5_count_16
  rw [iw_s, ob, in_s, ob]
  by_cases hx : 0 ≤ x ∧ x ≤ 13
  · rw [b01_t hx, if_neg n10, if_neg n10, rf_0, ob, if_pos rfl]
    obtain ⟨j, hj, rfl⟩ := rng_k 13 (by omega) hx
    have z3 : upd v0 8 0 3 = v0 3 := upd_n (by omega)
    have z7 : upd v0 8 0 7 = v0 7 := upd_n (by omega)
    unfold f3_number_0
    rw [h1, sc_s, sw_s, oc_s hN hw, ic_s hN hw, fm_s hN hw, mu_s hN hw, ob, ob, ob, ob, ob, ob]
    obtain rfl | rfl | rfl | rfl | rfl | rfl | rfl | rfl | rfl | rfl | rfl | rfl | rfl | rfl : j = 0 ∨ j = 1 ∨ j = 2 ∨ j = 3 ∨ j = 4 ∨ j = 5 ∨ j = 6 ∨ j = 7 ∨ j = 8 ∨ j = 9 ∨ j = 10 ∨ j = 11 ∨ j = 12 ∨ j = 13 := by omega
    · simp only [if_neg (show ¬ nI 0 = 1 by decide), if_neg (show ¬ nI 0 = 2 by decide), if_neg (show ¬ nI 0 = 3 by decide), if_neg (show ¬ nI 0 = 4 by decide), if_neg (show ¬ nI 0 = 5 by decide), if_neg (show ¬ nI 0 = 6 by decide), if_neg (show ¬ nI 0 = 7 by decide), if_neg (show ¬ nI 0 = 8 by decide), if_neg (show ¬ nI 0 = 9 by decide), if_neg (show ¬ nI 0 = 10 by decide), if_neg (show ¬ nI 0 = 11 by decide), if_neg (show ¬ nI 0 = 12 by decide), if_pos (show nI 0 = 0 by decide), ob, gdm162, gdm163, gdm164, gdm165, gdm166, gdm167, gdm168, gdm169, gdm170, cl162, cl163, cl164, cl165, cl166, cl167, cl168, cl169, cl170, gds0, gds1, gds2, cl0, cl1, cl2, z3, z7]
      exact ⟨_, _, _, rfl, rfl, rel_8 hR, Or.inl ⟨rfl, u8 v0 0, rfl⟩⟩
    · simp only [if_neg (show ¬ nI 1 = 0 by decide), if_neg (show ¬ nI 1 = 2 by decide), if_neg (show ¬ nI 1 = 3 by decide), if_neg (show ¬ nI 1 = 4 by decide), if_neg (show ¬ nI 1 = 5 by decide), if_neg (show ¬ nI 1 = 6 by decide), if_neg (show ¬ nI 1 = 7 by decide), if_neg (show ¬ nI 1 = 8 by decide), if_neg (show ¬ nI 1 = 9 by decide), if_neg (show ¬ nI 1 = 10 by decide), if_neg (show ¬ nI 1 = 11 by decide), if_neg (show ¬ nI 1 = 12 by decide), if_pos (show nI 1 = 1 by decide), ob, gdm162, gdm163, gdm164, gdm165, gdm166, gdm167, gdm168, gdm169, gdm170, cl162, cl163, cl164, cl165, cl166, cl167, cl168, cl169, cl170, gds0, gds1, gds2, cl0, cl1, cl2, z3, z7]
      exact ⟨_, _, _, rfl, rfl, rel_8 hR, Or.inl ⟨rfl, u8 v0 0, rfl⟩⟩
    · simp only [if_neg (show ¬ nI 2 = 0 by decide), if_neg (show ¬ nI 2 = 1 by decide), if_neg (show ¬ nI 2 = 3 by decide), if_neg (show ¬ nI 2 = 4 by decide), if_neg (show ¬ nI 2 = 5 by decide), if_neg (show ¬ nI 2 = 6 by decide), if_neg (show ¬ nI 2 = 7 by decide), if_neg (show ¬ nI 2 = 8 by decide), if_neg (show ¬ nI 2 = 9 by decide), if_neg (show ¬ nI 2 = 10 by decide), if_neg (show ¬ nI 2 = 11 by decide), if_neg (show ¬ nI 2 = 12 by decide), if_pos (show nI 2 = 2 by decide), ob, gdm162, gdm163, gdm164, gdm165, gdm166, gdm167, gdm168, gdm169, gdm170, cl162, cl163, cl164, cl165, cl166, cl167, cl168, cl169, cl170, gds0, gds1, gds2, cl0, cl1, cl2, z3, z7]
      exact ⟨_, _, _, rfl, rfl, rel_8 hR, Or.inl ⟨rfl, u8 v0 0, rfl⟩⟩
    · simp only [if_neg (show ¬ nI 3 = 0 by decide), if_neg (show ¬ nI 3 = 1 by decide), if_neg (show ¬ nI 3 = 2 by decide), if_neg (show ¬ nI 3 = 4 by decide), if_neg (show ¬ nI 3 = 5 by decide), if_neg (show ¬ nI 3 = 6 by decide), if_neg (show ¬ nI 3 = 7 by decide), if_neg (show ¬ nI 3 = 8 by decide), if_neg (show ¬ nI 3 = 9 by decide), if_neg (show ¬ nI 3 = 10 by decide), if_neg (show ¬ nI 3 = 11 by decide), if_neg (show ¬ nI 3 = 12 by decide), if_pos (show nI 3 = 3 by decide), ob, gdm162, gdm163, gdm164, gdm165, gdm166, gdm167, gdm168, gdm169, gdm170, cl162, cl163, cl164, cl165, cl166, cl167, cl168, cl169, cl170, gds0, gds1, gds2, cl0, cl1, cl2, z3, z7]
      exact ⟨_, _, _, rfl, rfl, rel_8 hR, Or.inl ⟨rfl, u8 v0 0, rfl⟩⟩
    · simp only [if_neg (show ¬ nI 4 = 0 by decide), if_neg (show ¬ nI 4 = 1 by decide), if_neg (show ¬ nI 4 = 2 by decide), if_neg (show ¬ nI 4 = 3 by decide), if_neg (show ¬ nI 4 = 5 by decide), if_neg (show ¬ nI 4 = 6 by decide), if_neg (show ¬ nI 4 = 7 by decide), if_neg (show ¬ nI 4 = 8 by decide), if_neg (show ¬ nI 4 = 9 by decide), if_neg (show ¬ nI 4 = 10 by decide), if_neg (show ¬ nI 4 = 11 by decide), if_neg (show ¬ nI 4 = 12 by decide), if_pos (show nI 4 = 4 by decide), ob, gdm162, gdm163, gdm164, gdm165, gdm166, gdm167, gdm168, gdm169, gdm170, cl162, cl163, cl164, cl165, cl166, cl167, cl168, cl169, cl170, gds0, gds1, gds2, cl0, cl1, cl2, z3, z7]
      exact ⟨_, _, _, rfl, rfl, rel_8 hR, Or.inl ⟨rfl, u8 v0 0, rfl⟩⟩
    · simp only [if_neg (show ¬ nI 5 = 0 by decide), if_neg (show ¬ nI 5 = 1 by decide), if_neg (show ¬ nI 5 = 2 by decide), if_neg (show ¬ nI 5 = 3 by decide), if_neg (show ¬ nI 5 = 4 by decide), if_neg (show ¬ nI 5 = 6 by decide), if_neg (show ¬ nI 5 = 7 by decide), if_neg (show ¬ nI 5 = 8 by decide), if_neg (show ¬ nI 5 = 9 by decide), if_neg (show ¬ nI 5 = 10 by decide), if_neg (show ¬ nI 5 = 11 by decide), if_neg (show ¬ nI 5 = 12 by decide), if_pos (show nI 5 = 5 by decide), ob, gdm162, gdm163, gdm164, gdm165, gdm166, gdm167, gdm168, gdm169, gdm170, cl162, cl163, cl164, cl165, cl166, cl167, cl168, cl169, cl170, gds0, gds1, gds2, cl0, cl1, cl2, z3, z7]
      exact ⟨_, _, _, rfl, rfl, rel_8 hR, Or.inl ⟨rfl, u8 v0 0, rfl⟩⟩
    · simp only [if_neg (show ¬ nI 6 = 0 by decide), if_neg (show ¬ nI 6 = 1 by decide), if_neg (show ¬ nI 6 = 2 by decide), if_neg (show ¬ nI 6 = 3 by decide), if_neg (show ¬ nI 6 = 4 by decide), if_neg (show ¬ nI 6 = 5 by decide), if_neg (show ¬ nI 6 = 7 by decide), if_neg (show ¬ nI 6 = 8 by decide), if_neg (show ¬ nI 6 = 9 by decide), if_neg (show ¬ nI 6 = 10 by decide), if_neg (show ¬ nI 6 = 11 by decide), if_neg (show ¬ nI 6 = 12 by decide), if_pos (show nI 6 = 6 by decide), ob, gdm162, gdm163, gdm164, gdm165, gdm166, gdm167, gdm168, gdm169, gdm170, cl162, cl163, cl164, cl165, cl166, cl167, cl168, cl169, cl170, gds0, gds1, gds2, cl0, cl1, cl2, z3, z7]
      exact ⟨_, _, _, rfl, rfl, rel_8 hR, Or.inl ⟨rfl, u8 v0 0, rfl⟩⟩
    · simp only [if_neg (show ¬ nI 7 = 0 by decide), if_neg (show ¬ nI 7 = 1 by decide), if_neg (show ¬ nI 7 = 2 by decide), if_neg (show ¬ nI 7 = 3 by decide), if_neg (show ¬ nI 7 = 4 by decide), if_neg (show ¬ nI 7 = 5 by decide), if_neg (show ¬ nI 7 = 6 by decide), if_neg (show ¬ nI 7 = 8 by decide), if_neg (show ¬ nI 7 = 9 by decide), if_neg (show ¬ nI 7 = 10 by decide), if_neg (show ¬ nI 7 = 11 by decide), if_neg (show ¬ nI 7 = 12 by decide), if_pos (show nI 7 = 7 by decide), ob, gdm162, gdm163, gdm164, gdm165, gdm166, gdm167, gdm168, gdm169, gdm170, cl162, cl163, cl164, cl165, cl166, cl167, cl168, cl169, cl170, gds0, gds1, gds2, cl0, cl1, cl2, z3, z7]
      exact ⟨_, _, _, rfl, rfl, rel_8 hR, Or.inl ⟨rfl, u8 v0 0, rfl⟩⟩
    · simp only [if_neg (show ¬ nI 8 = 0 by decide), if_neg (show ¬ nI 8 = 1 by decide), if_neg (show ¬ nI 8 = 2 by decide), if_neg (show ¬ nI 8 = 3 by decide), if_neg (show ¬ nI 8 = 4 by decide), if_neg (show ¬ nI 8 = 5 by decide), if_neg (show ¬ nI 8 = 6 by decide), if_neg (show ¬ nI 8 = 7 by decide), if_neg (show ¬ nI 8 = 9 by decide), if_neg (show ¬ nI 8 = 10 by decide), if_neg (show ¬ nI 8 = 11 by decide), if_neg (show ¬ nI 8 = 12 by decide), if_pos (show nI 8 = 8 by decide), ob, gdm162, gdm163, gdm164, gdm165, gdm166, gdm167, gdm168, gdm169, gdm170, cl162, cl163, cl164, cl165, cl166, cl167, cl168, cl169, cl170, gds0, gds1, gds2, cl0, cl1, cl2, z3, z7]
      exact ⟨_, _, _, rfl, rfl, rel_8 hR, Or.inl ⟨rfl, u8 v0 0, rfl⟩⟩
    · simp only [if_neg (show ¬ nI 9 = 0 by decide), if_neg (show ¬ nI 9 = 1 by decide), if_neg (show ¬ nI 9 = 2 by decide), if_neg (show ¬ nI 9 = 3 by decide), if_neg (show ¬ nI 9 = 4 by decide), if_neg (show ¬ nI 9 = 5 by decide), if_neg (show ¬ nI 9 = 6 by decide), if_neg (show ¬ nI 9 = 7 by decide), if_neg (show ¬ nI 9 = 8 by decide), if_neg (show ¬ nI 9 = 10 by decide), if_neg (show ¬ nI 9 = 11 by decide), if_neg (show ¬ nI 9 = 12 by decide), if_pos (show nI 9 = 9 by decide), ob, gdm162, gdm163, gdm164, gdm165, gdm166, gdm167, gdm168, gdm169, gdm170, cl162, cl163, cl164, cl165, cl166, cl167, cl168, cl169, cl170, gds0, gds1, gds2, cl0, cl1, cl2, z3, z7]
      exact ⟨_, _, _, rfl, rfl, rel_8 hR, Or.inl ⟨rfl, u8 v0 0, m2.trans m3.symm⟩⟩
    · simp only [if_neg (show ¬ nI 10 = 0 by decide), if_neg (show ¬ nI 10 = 1 by decide), if_neg (show ¬ nI 10 = 2 by decide), if_neg (show ¬ nI 10 = 3 by decide), if_neg (show ¬ nI 10 = 4 by decide), if_neg (show ¬ nI 10 = 5 by decide), if_neg (show ¬ nI 10 = 6 by decide), if_neg (show ¬ nI 10 = 7 by decide), if_neg (show ¬ nI 10 = 8 by decide), if_neg (show ¬ nI 10 = 9 by decide), if_neg (show ¬ nI 10 = 11 by decide), if_neg (show ¬ nI 10 = 12 by decide), if_pos (show nI 10 = 10 by decide), ob, gdm162, gdm163, gdm164, gdm165, gdm166, gdm167, gdm168, gdm169, gdm170, cl162, cl163, cl164, cl165, cl166, cl167, cl168, cl169, cl170, gds0, gds1, gds2, cl0, cl1, cl2, z3, z7]
      exact ⟨_, _, _, rfl, rfl, rel_8 hR, Or.inl ⟨rfl, u8 v0 0, l1.trans l2.symm⟩⟩
    · simp only [if_neg (show ¬ nI 11 = 0 by decide), if_neg (show ¬ nI 11 = 1 by decide), if_neg (show ¬ nI 11 = 2 by decide), if_neg (show ¬ nI 11 = 3 by decide), if_neg (show ¬ nI 11 = 4 by decide), if_neg (show ¬ nI 11 = 5 by decide), if_neg (show ¬ nI 11 = 6 by decide), if_neg (show ¬ nI 11 = 7 by decide), if_neg (show ¬ nI 11 = 8 by decide), if_neg (show ¬ nI 11 = 9 by decide), if_neg (show ¬ nI 11 = 10 by decide), if_neg (show ¬ nI 11 = 12 by decide), if_pos (show nI 11 = 11 by decide), ob, gdm162, gdm163, gdm164, gdm165, gdm166, gdm167, gdm168, gdm169, gdm170, cl162, cl163, cl164, cl165, cl166, cl167, cl168, cl169, cl170, gds0, gds1, gds2, cl0, cl1, cl2, z3, z7, show (168 : Int32) + nI 11 - 11 = 168 from by decide]
      exact ⟨_, _, _, rfl, rfl, rel_8 hR, Or.inl ⟨rfl, u8 v0 0, rfl⟩⟩
    · simp only [if_neg (show ¬ nI 12 = 0 by decide), if_neg (show ¬ nI 12 = 1 by decide), if_neg (show ¬ nI 12 = 2 by decide), if_neg (show ¬ nI 12 = 3 by decide), if_neg (show ¬ nI 12 = 4 by decide), if_neg (show ¬ nI 12 = 5 by decide), if_neg (show ¬ nI 12 = 6 by decide), if_neg (show ¬ nI 12 = 7 by decide), if_neg (show ¬ nI 12 = 8 by decide), if_neg (show ¬ nI 12 = 9 by decide), if_neg (show ¬ nI 12 = 10 by decide), if_neg (show ¬ nI 12 = 11 by decide), if_pos (show nI 12 = 12 by decide), ob, gdm162, gdm163, gdm164, gdm165, gdm166, gdm167, gdm168, gdm169, gdm170, cl162, cl163, cl164, cl165, cl166, cl167, cl168, cl169, cl170, gds0, gds1, gds2, cl0, cl1, cl2, z3, z7, show (168 : Int32) + nI 12 - 11 = 169 from by decide]
      exact ⟨_, _, _, rfl, rfl, rel_8 hR, Or.inl ⟨rfl, u8 v0 0, rfl⟩⟩
    · simp only [if_neg (show ¬ nI 13 = 0 by decide), if_neg (show ¬ nI 13 = 1 by decide), if_neg (show ¬ nI 13 = 2 by decide), if_neg (show ¬ nI 13 = 3 by decide), if_neg (show ¬ nI 13 = 4 by decide), if_neg (show ¬ nI 13 = 5 by decide), if_neg (show ¬ nI 13 = 6 by decide), if_neg (show ¬ nI 13 = 7 by decide), if_neg (show ¬ nI 13 = 8 by decide), if_neg (show ¬ nI 13 = 9 by decide), if_neg (show ¬ nI 13 = 10 by decide), if_neg (show ¬ nI 13 = 11 by decide), if_neg (show ¬ nI 13 = 12 by decide), ob, gdm162, gdm163, gdm164, gdm165, gdm166, gdm167, gdm168, gdm169, gdm170, cl162, cl163, cl164, cl165, cl166, cl167, cl168, cl169, cl170, gds0, gds1, gds2, cl0, cl1, cl2, z3, z7, show (168 : Int32) + nI 13 - 11 = 170 from by decide]
      exact ⟨_, _, _, rfl, rfl, rel_8 hR, Or.inl ⟨rfl, u8 v0 0, rfl⟩⟩
  · rw [b01_f hx, if_pos rfl, if_pos rfl, rf_1, ob, if_neg n10]
    exact ⟨_, _, _, rfl, rfl, rel_8 hR, Or.inr ⟨rfl, u8 v0 1⟩⟩
/-! ifRun -/
theorem q_ifRun {mu : Nat → Nat → Int32} {v0 v1 v2 v3 v4 v5 v6 v7 v8 : Nat → Int32} (x y : Int32) (h : Rel mu v0 v1 v3 v4 v5 v6) :
    ∃ t r v0' v2' v7' v8', f4_ifRun_0 x y mu = some t ∧ f5_ifRun_0 x y v0 v1 v2 v7 v8 = some (r, v0', v1, v2', v7', v8') ∧ Rel t.2.2 v0' v1 v3 v4 v5 v6 ∧
      (t.1 = 0 ∧ v0' 8 = 0 ∧ t.2.1 = r ∨ t.1 = 2 ∧ v0' 8 = 1) := by
  have hR := h
  obtain ⟨h1, h2, h3, h4, h5⟩ := h
  have hI : Inv v1 := h1 ▸ h2 0 (by omega)
  obtain ⟨N, hN, hw⟩ := inv_N hI
  unfold f4_ifRun_0 f5_ifRun_0 f5_ifRun_25 f5_ifRun_26
  rw [iw_s, ob, in_s, ob, rf_1, ob, if_neg n10]
  by_cases hx : 1 ≤ x ∧ x ≤ 200
  · rw [b01_t hx, if_neg n10, if_neg n10, iw_s, ob, in_s, ob]
    by_cases hy : 0 ≤ y ∧ y ≤ 4
    · rw [b01_t hy, if_neg n10, if_neg n10, rf_0, ob, if_pos rfl]
      have hx0 : (0 : Int32) ≤ x := by have := i_le.mp hx.1; rw [i_le]; rw [show (1 : Int32).toInt = 1 from rfl] at this; rw [show (0 : Int32).toInt = 0 from rfl]; omega
      obtain ⟨T, hT, rfl⟩ := rng_k 200 (by omega) ⟨hx0, hx.2⟩
      obtain ⟨r, p1, p2⟩ := pa_s (v1 := v1) (v2 := v2)
      obtain ⟨w', a2, a7, a8, e1, e2, e3, e4⟩ := ts_s (v2 := mu 21) (v7 := v7) (v8 := v8) hI hN hw (show T < 999 by omega)
      have pb := pb_s hI p2 e3
      rw [cp_i (h2 0 (by omega)) (h2 1 (by omega)), ob, h1]
      show ∃ t r v0' v2' v7' v8', Option.bind (f3_passTicks_0 (nI T) (s1 mu 1 v1 1) (s1 mu 1 v1 21)) _ = some t ∧ _
      rw [s1_k, s1_n (show 21 ≠ 1 by omega), e1, ob, p1, ob, gdm166, ab_s hN hw, ob, e2, ob]
      show ∃ t r v0' v2' v7' v8', (if y = 0 then some (0, (s1 (s1 (s1 mu 1 v1) 21 a2) 1 w') 1 165 - (s1 (s1 (s1 mu 1 v1) 21 a2) 1 w') 0 165, s1 (s1 (s1 mu 1 v1) 21 a2) 1 w') else _) = some t ∧ _
      have hR2 : Rel (s1 (s1 (s1 mu 1 v1) 21 a2) 1 w') (upd v0 8 0) v1 v3 v4 v5 v6 := rel_8 (rel_t (rel_m (rel_t hR hI) (by omega)) e3)
      have z1 : s1 (s1 (s1 mu 1 v1) 21 a2) 1 w' 1 = w' := s1_k
      have z0 : s1 (s1 (s1 mu 1 v1) 21 a2) 1 w' 0 = v1 := hR2.1
      unfold f5_ifRun_122
      simp only [Nat.reduceAdd, z0, z1, cis_s hN e4, bu_s hN e4, bu_s hN hw, ab_s hN e4, cat_s hN e4, if_pos (show (-1 : Int32) < 0 by decide), gdm166, cl166, ob, pb]
      by_cases y0 : y = 0
      · rw [if_pos y0, if_pos y0]
        exact ⟨_, _, _, _, _, _, rfl, rfl, hR2, Or.inl ⟨rfl, u8 v0 0, rfl⟩⟩
      rw [if_neg y0, if_neg y0]
      by_cases y1 : y = 1
      · rw [if_pos y1, if_pos y1]
        exact ⟨_, _, _, _, _, _, rfl, rfl, hR2, Or.inl ⟨rfl, u8 v0 0, rfl⟩⟩
      rw [if_neg y1, if_neg y1]
      by_cases y2 : y = 2
      · rw [if_pos y2, if_pos y2]
        exact ⟨_, _, _, _, _, _, rfl, rfl, hR2, Or.inl ⟨rfl, u8 v0 0, rfl⟩⟩
      rw [if_neg y2, if_neg y2]
      by_cases y3 : y = 3
      · rw [if_pos y3, if_pos y3]
        exact ⟨_, _, _, _, _, _, rfl, rfl, hR2, Or.inl ⟨rfl, u8 v0 0, rfl⟩⟩
      rw [if_neg y3, if_neg y3]
      exact ⟨_, _, _, _, _, _, rfl, rfl, hR2, Or.inl ⟨rfl, u8 v0 0, rfl⟩⟩
    · rw [b01_f hy, if_pos rfl, if_pos rfl]
      exact ⟨_, _, _, _, _, _, rfl, rfl, rel_8 hR, Or.inr ⟨rfl, u8 v0 1⟩⟩
  · rw [b01_f hx, if_pos rfl, if_pos rfl]
    exact ⟨_, _, _, _, _, _, rfl, rfl, rel_8 hR, Or.inr ⟨rfl, u8 v0 1⟩⟩
