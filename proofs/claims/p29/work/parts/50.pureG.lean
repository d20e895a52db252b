/-! what a call does to the state: both sides -/
theorem ad_s {w : Nat → Int32} {N : Nat} (hI : Inv w) (hN : N < 8) (hw : w 162 = nI N) :
    ∃ w', f3_addCar_0 w = some (nI N, w') ∧ f5_adds_0 w = some (nI N, w') ∧ Inv w' ∧ w' 162 = nI (N + 1) := by
  have hz : Inv (s9 (upd w 162 (nI (N + 1))) N 0 0 0 0 0 0 0 0 0) := inv_s9 hI (by omega) (fun i hi => upd_n (by omega)) (by rw [upd_s]; exact sml_n (by omega))
    ⟨sml_n (k := 0) (by omega), sml_n (k := 0) (by omega), sml_n (k := 0) (by omega), sml_n (k := 0) (by omega), sml_n (k := 0) (by omega), sml_n (k := 0) (by omega), fun _ => sml_n (k := 0) (by omega)⟩
  refine ⟨s9 (upd w 162 (nI (N + 1))) N 0 0 0 0 0 0 0 0 0, ?_, ?_, hz, by rw [s9_o (by omega), upd_s]⟩
  · unfold f3_addCar_0
    have e0 : f0_makeNew_0 N w = some (s9 w N 0 0 0 0 0 0 0 0 0) := rfl
    rw [hw, if_neg (by rw [show (0 : Int32) = nI 0 from rfl, n_lt (by omega) (by omega)]; omega), if_pos (by rw [show (8 : Int32) = nI 8 from rfl, n_lt (by omega) (by omega)]; omega)]
    simp (disch := omega) only [gd_n, cl_n, e0, ob, s9_o, hw, ad_1, s9_uo, upd_s, sb_1]
  · unfold f5_adds_0
    simp only [gdm162, cl162, hw]
    obtain ⟨s', m, g1, g2⟩ := lp_k (σ := Nat → Int32) (L := fun m s j => f5_adds_11 m (nI N) j s) (N := 9) (P := fun j s => ∀ i, s i = if 90 + 9 * N ≤ i ∧ i < 90 + 9 * N + j then 0 else w i) (by
      intro n s j hj hs
      have h8 : ¬ (9 : Int32) ≤ nI j := by rw [show (9 : Int32) = nI 9 from rfl, n_le (by omega) (by omega)]; omega
      refine ⟨upd s (90 + 9 * N + j) 0, ?_, ?_⟩
      · intro i
        by_cases e : i = 90 + 9 * N + j
        · subst e
          rw [upd_s, if_pos (by omega)]
        · rw [upd_n e, hs i]
          by_cases q : 90 + 9 * N ≤ i ∧ i < 90 + 9 * N + j
          · rw [if_pos q, if_pos (by omega)]
          · rw [if_neg q, if_neg (by omega)]
      · show f5_adds_11 (n + 1) (nI N) (nI j) s = _
        simp (disch := omega) only [f5_adds_11, if_neg h8, e5_n, gd_n, cl_n, ad_1]) 9 fu 0 w rfl (by omega) (fun i => by rw [if_neg (by omega)]) (by rw [fu_eq]; omega)
    have es : s' = s9 w N 0 0 0 0 0 0 0 0 0 := by
      funext i
      rw [g1 i]
      by_cases q : 90 + 9 * N ≤ i ∧ i < 90 + 9 * N + 9
      · rw [if_pos q]
        exact (s9_blk (q := w) (src := fun _ => 0) q.1 q.2).symm
      · rw [if_neg q, s9_o (by omega)]
    refine Eq.trans g2 ?_
    show f5_adds_11 (m + 1) (nI N) (nI 9) s' = _
    simp (disch := omega) only [f5_adds_11, if_pos (show (9 : Int32) ≤ nI 9 by decide), gdm162, cl162, es, s9_o, hw, ad_1, s9_uo]
theorem ad_8 {w : Nat → Int32} (hw : w 162 = nI 8) : f3_addCar_0 w = some (-1, w) := by
  unfold f3_addCar_0 f3_addCar_16
  rw [hw, if_neg (by decide), if_neg (by decide)]
/-- a car's cells, written anew -/
theorem inv_car {w : Nat → Int32} {k : Nat} {a0 a1 a2 a3 a4 a5 a6 a7 a8 : Int32} (hI : Inv w) (hk : k < 8) (hQ : carQ a0 a1 a2 a3 a4 a5 a6 a7 a8) : Inv (s9 w k a0 a1 a2 a3 a4 a5 a6 a7 a8) :=
  inv_s9 hI hk (fun _ _ => rfl) hI.1 hQ
theorem up_0 {w : Nat → Int32} {k : Nat} {x : Int32} : upd w (90 + 9 * k + 0) x = s9 w k x (w (90 + 9 * k + 1)) (w (90 + 9 * k + 2)) (w (90 + 9 * k + 3)) (w (90 + 9 * k + 4)) (w (90 + 9 * k + 5)) (w (90 + 9 * k + 6)) (w (90 + 9 * k + 7)) (w (90 + 9 * k + 8)) := by
  conv => lhs; rw [s9_of (w := w) (c := k)]
  rw [s9_u0]
theorem up_1 {w : Nat → Int32} {k : Nat} {x : Int32} : upd w (90 + 9 * k + 1) x = s9 w k (w (90 + 9 * k + 0)) x (w (90 + 9 * k + 2)) (w (90 + 9 * k + 3)) (w (90 + 9 * k + 4)) (w (90 + 9 * k + 5)) (w (90 + 9 * k + 6)) (w (90 + 9 * k + 7)) (w (90 + 9 * k + 8)) := by
  conv => lhs; rw [s9_of (w := w) (c := k)]
  rw [s9_u1]
theorem up_2 {w : Nat → Int32} {k : Nat} {x : Int32} : upd w (90 + 9 * k + 2) x = s9 w k (w (90 + 9 * k + 0)) (w (90 + 9 * k + 1)) x (w (90 + 9 * k + 3)) (w (90 + 9 * k + 4)) (w (90 + 9 * k + 5)) (w (90 + 9 * k + 6)) (w (90 + 9 * k + 7)) (w (90 + 9 * k + 8)) := by
  conv => lhs; rw [s9_of (w := w) (c := k)]
  rw [s9_u2]
theorem lo_s {w : Nat → Int32} {k : Nat} {x : Int32} (hI : Inv w) (hk : k < 8) (hx : sml (w (90 + 9 * k + 1) + x) 20) :
    ∃ r w', f3_addOre_0 (nI k) x w = some (r, w') ∧ f5_loads_0 (nI k) x w = some (r, w') ∧ Inv w' ∧ w' 162 = w 162 := by
  obtain ⟨q0, q1, q2, q3, q4, q5, q6⟩ := inv_q hI (c := k) (by omega)
  refine ⟨(upd (upd w (90 + 9 * k + 1) (w (90 + 9 * k + 1) + x)) 164 ((upd w (90 + 9 * k + 1) (w (90 + 9 * k + 1) + x)) 164 + x)) (90 + 9 * k + 1), upd (upd w (90 + 9 * k + 1) (w (90 + 9 * k + 1) + x)) 164 ((upd w (90 + 9 * k + 1) (w (90 + 9 * k + 1) + x)) 164 + x), ?_, ?_, ?_, ?_⟩
  · unfold f3_addOre_0 f3_addOre_25
    simp (disch := omega) only [gd_n, cl_n]
  · unfold f5_loads_0 f5_loads_26
    simp (disch := omega) only [gd_n, cl_n, e5_1, gdm164, cl164]
  · refine inv_upd ?_ (by omega)
    rw [up_1]
    exact inv_car hI hk ⟨q0, hx, q2, q3, q4, q5, q6⟩
  · rw [upd_n (by omega), upd_n (by omega)]
theorem cb_s {w : Nat → Int32} {k : Nat} {x : Int32} (hI : Inv w) (hk : k < 8) (hx : sml x 9) :
    ∃ r w', f3_changeBrake_0 (nI k) x w = some (r, w') ∧ f5_brakes_0 (nI k) x w = some (r, w') ∧ Inv w' ∧ w' 162 = w 162 := by
  obtain ⟨q0, q1, q2, q3, q4, q5, q6⟩ := inv_q hI (c := k) (by omega)
  refine ⟨w (90 + 9 * k + 2), upd w (90 + 9 * k + 2) x, ?_, ?_, ?_, upd_n (by omega)⟩
  · unfold f3_changeBrake_0
    simp (disch := omega) only [gd_n, cl_n]
  · unfold f5_brakes_0
    simp (disch := omega) only [gd_n, cl_n, e5_2]
  · rw [up_2]
    exact inv_car hI hk ⟨q0, q1, hx, q3, q4, q5, q6⟩
theorem lr_s {w : Nat → Int32} {N k : Nat} {x : Int32} (hI : Inv w) (hN : N ≤ 8) (hw : w 162 = nI N) (hk : k < N) (hx : sml x 9) :
    ∃ r w', f3_letRoll_0 (nI k) x w = some (r, w') ∧ f5_releases_0 (nI k) x w = some (r, w') ∧ Inv w' ∧ w' 162 = nI N := by
  obtain ⟨q0, q1, q2, q3, q4, q5, q6⟩ := inv_q hI (c := k) (by omega)
  unfold f3_letRoll_0 f5_releases_0
  rw [rr_s hN hw hk, nr_s (fun c hc => inv_p hI (by omega)) hN hw hk, ob, ob]
  have no : ∀ r : Int32, ¬ r = 0 → ¬ r ≤ 0 → ∃ r' w', (if r = 0 then gd (nI k) 8 (gd (nI k) 8 (some ((0 : Int32), upd (upd w (90 + 9 * (Int32.toNatClampNeg (nI k)) + 0) 1) (90 + 9 * (Int32.toNatClampNeg (nI k)) + 2) x))) else some (r, upd w 167 (w 167 + 1))) = some (r', w') ∧
      (if r ≤ 0 then gd (e5_of (nI k) 0) 171 (gd (e5_of (nI k) 2) 171 (some ((0 : Int32), upd (upd w (Int32.toNatClampNeg (e5_of (nI k) 0)) 1) (Int32.toNatClampNeg (e5_of (nI k) 2)) x))) else gd 167 171 (gd 167 171 (some (r, upd w (Int32.toNatClampNeg 167) (w (Int32.toNatClampNeg 167) + 1))))) = some (r', w') ∧ Inv w' ∧ w' 162 = nI N := by
    intro r h1 h2
    refine ⟨r, upd w 167 (w 167 + 1), by rw [if_neg h1], by rw [if_neg h2, gdm167, gdm167, cl167], inv_upd hI (by omega), by rw [upd_n (by omega)]; exact hw⟩
  by_cases h0 : w (90 + 9 * k + 0) = 0
  · rw [if_pos h0]
    by_cases hb : bar w N = true
    · rw [if_pos hb]
      exact no 2 (by decide) (by decide)
    · rw [if_neg hb]
      refine ⟨0, upd (upd w (90 + 9 * k + 0) 1) (90 + 9 * k + 2) x, ?_, ?_, ?_, by rw [upd_n (by omega), upd_n (by omega)]; exact hw⟩
      · simp (disch := omega) only [gd_n, cl_n]
        rfl
      · rw [if_pos (by decide)]
        simp (disch := omega) only [gd_n, cl_n, e5_0, e5_2]
      · rw [up_0, s9_u2]
        exact inv_car hI (by omega) ⟨sml_n (k := 1) (by omega), q1, hx, q3, q4, q5, fun _ => q6 (Or.inr h0)⟩
  · rw [if_neg h0]
    exact no 1 (by decide) (by decide)
theorem hm_s {w : Nat → Int32} {N k : Nat} (hI : Inv w) (hN : N ≤ 8) (hw : w 162 = nI N) (hk : k < N) :
    ∃ r w', f3_harnessMule_0 (nI k) w = some (r, w') ∧ f5_pulls_0 (nI k) w = some (r, w') ∧ Inv w' ∧ w' 162 = nI N := by
  obtain ⟨q0, q1, q2, q3, q4, q5, q6⟩ := inv_q hI (c := k) (by omega)
  unfold f3_harnessMule_0 f5_pulls_0
  rw [pr_s hN hw hk, np_s hN hw hk, ob, ob]
  have no : ∀ r : Int32, ¬ r = 0 → ¬ r ≤ 0 → ∃ r' w', (if r = 0 then gd (nI k) 8 (gd (nI k) 8 (some ((0 : Int32), upd (upd w (90 + 9 * (Int32.toNatClampNeg (nI k)) + 0) 4) (90 + 9 * (Int32.toNatClampNeg (nI k)) + 2) 0))) else some (r, upd w 167 (w 167 + 1))) = some (r', w') ∧
      (if r ≤ 0 then gd (e5_of (nI k) 0) 171 (gd (e5_of (nI k) 2) 171 (some ((0 : Int32), upd (upd w (Int32.toNatClampNeg (e5_of (nI k) 0)) 4) (Int32.toNatClampNeg (e5_of (nI k) 2)) 0))) else gd 167 171 (gd 167 171 (some (r, upd w (Int32.toNatClampNeg 167) (w (Int32.toNatClampNeg 167) + 1))))) = some (r', w') ∧ Inv w' ∧ w' 162 = nI N := by
    intro r h1 h2
    refine ⟨r, upd w 167 (w 167 + 1), by rw [if_neg h1], by rw [if_neg h2, gdm167, gdm167, cl167], inv_upd hI (by omega), by rw [upd_n (by omega)]; exact hw⟩
  by_cases h0 : w (90 + 9 * k + 0) = 2 ∨ w (90 + 9 * k + 0) = 3
  · rw [if_pos h0]
    by_cases hb : fmul w N = 0
    · rw [if_pos hb]
      exact no 2 (by decide) (by decide)
    · rw [if_neg hb]
      refine ⟨0, upd (upd w (90 + 9 * k + 0) 4) (90 + 9 * k + 2) 0, ?_, ?_, ?_, by rw [upd_n (by omega), upd_n (by omega)]; exact hw⟩
      · simp (disch := omega) only [gd_n, cl_n]
        rfl
      · rw [if_pos (by decide)]
        simp (disch := omega) only [gd_n, cl_n, e5_0, e5_2]
      · rw [up_0, s9_u2]
        exact inv_car hI (by omega) ⟨sml_n (k := 4) (by omega), q1, sml_n (k := 0) (by omega), q3, q4, q5, fun e => absurd e (by decide)⟩
  · rw [if_neg h0]
    exact no 1 (by decide) (by decide)
