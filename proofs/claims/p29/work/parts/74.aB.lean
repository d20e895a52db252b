/-! p29: what a call does to a state keeps J -/
theorem jn_67 {B : Int} {N : Nat} {w : Vc} {x : Int32} (h : JN B N w) : JN B N (upd w 167 x) :=
  jn_o h (inv_upd h.1 (by omega)) (fun i h1 h2 => upd_n (by omega)) (upd_n (by omega)) (upd_n (by omega)) (upd_n (by omega)) (by rw [upd_n (by omega)]; exact h.2.2.2.2.2.2.2.2.1)
theorem lo_J {B : Int} {N k : Nat} {w : Vc} {x : Int32} (h : JN B N w) (hB : B ≤ 1000000000) (hk : k < N) (h0 : w (90 + 9 * k + 0) = 0) (hx : 1 ≤ x ∧ x ≤ 20) (hc : ¬ 20 < w (90 + 9 * k + 1) + x) :
    ∃ r w', f3_addOre_0 (nI k) x w = some (r, w') ∧ JN (B + 20) N w' := by
  have hJ := h
  obtain ⟨hI, hN, hw, hC, hF, hs, hd, hn, ht, hr⟩ := h
  obtain ⟨q0, q1, q2, q3, q4, q5, q6⟩ := inv_q hI (c := k) (by omega)
  obtain ⟨c1, c2, c3, c4, c5, c6, c7, c8⟩ := hC k hk
  have so := ore_ok q1 hx hc
  have x1 := i_le.mp hx.1
  have x2 := i_le.mp hx.2
  rw [show (1 : Int32).toInt = 1 from rfl] at x1
  rw [show (20 : Int32).toInt = 20 from rfl] at x2
  have k1 := sml_i q1 (by omega)
  have ko : (w (90 + 9 * k + 1) + x).toInt = (w (90 + 9 * k + 1)).toInt + x.toInt := by rw [i_add] <;> omega
  have hnn : 0 ≤ smI (oreI w) N := smI_nn (fun d hd => (sml_i (inv_c hI (c := d) (by omega)).2.1 (by omega)).1)
  have k164 : (w 164 + x).toInt = (w 164).toInt + x.toInt := by rw [i_add] <;> omega
  refine ⟨w (90 + 9 * k + 1) + x, upd (upd w (90 + 9 * k + 1) (w (90 + 9 * k + 1) + x)) 164 (w 164 + x), ?_, ?_⟩
  · unfold f3_addOre_0 f3_addOre_25
    simp (disch := omega) only [gd_n, cl_n, upd_n, upd_s]
  · have : upd (upd w (90 + 9 * k + 1) (w (90 + 9 * k + 1) + x)) 164 (w 164 + x) = s9 (upd w 164 (w 164 + x)) k (w (90 + 9 * k + 0)) (w (90 + 9 * k + 1) + x) (w (90 + 9 * k + 2)) (w (90 + 9 * k + 3)) (w (90 + 9 * k + 4)) (w (90 + 9 * k + 5)) (w (90 + 9 * k + 6)) (w (90 + 9 * k + 7)) (w (90 + 9 * k + 8)) := by
      rw [up_1, s9_uo (by omega)]
    rw [this]
    refine jn_s9 hJ (by omega) hk (inv_s9 hI (by omega) (fun i hi => upd_n (by omega)) (by rw [upd_n (by omega)]; exact hI.1) ⟨q0, so, q2, q3, q4, q5, q6⟩) (fun i h1 h2 => upd_n (by omega)) (fun m hm => by rw [upd_n (by omega)]; have := hr m hm; omega) ?_ (fun e => absurd (h0.symm.trans e) (by decide)) ?_ ?_ ?_ ?_
    · exact ⟨c1, c2, fun e => absurd (h0.symm.trans e) (by decide), fun e => absurd (h0.symm.trans e) (by decide), c5, c6, ⟨c7.1, by omega⟩, ⟨c8.1, by omega⟩⟩
    · rw [upd_s, upd_n (show 165 ≠ 164 by omega), upd_n (show 166 ≠ 164 by omega), k164, ko]; omega
    · rw [upd_n (by omega)]; omega
    · rw [upd_s, upd_n (show 165 ≠ 164 by omega), upd_n (show 166 ≠ 164 by omega), k164]; omega
    · rw [upd_n (by omega)]; omega
theorem cb_J {B : Int} {N k : Nat} {w : Vc} {x : Int32} (h : JN B N w) (hk : k < N) (h0 : w (90 + 9 * k + 0) = 1) (hx : sml x 9) :
    ∃ r w', f3_changeBrake_0 (nI k) x w = some (r, w') ∧ JN B N w' := by
  have hJ := h
  obtain ⟨hI, hN, hw, hC, hF, hs, hd, hn, ht, hr⟩ := h
  obtain ⟨q0, q1, q2, q3, q4, q5, q6⟩ := inv_q hI (c := k) (by omega)
  obtain ⟨c1, c2, c3, c4, c5, c6, c7, c8⟩ := hC k hk
  refine ⟨w (90 + 9 * k + 2), upd w (90 + 9 * k + 2) x, ?_, ?_⟩
  · unfold f3_changeBrake_0
    simp (disch := omega) only [gd_n, cl_n]
  · rw [up_2]
    exact jn_s9 hJ (Int.le_refl _) hk (inv_car hI (by omega) ⟨q0, q1, hx, q3, q4, q5, q6⟩) (fun i _ _ => rfl) (fun m hm => ⟨Int.le_refl _, (hr m hm).2⟩)
      ⟨c1, c2, fun e => absurd (h0.symm.trans e) (by decide), c4, fun e => absurd (h0.symm.trans e) (by decide), c6, c7, c8⟩ (fun _ d hd hne r => hF k d hk hd (fun e => hne e.symm) h0 r) (by omega) (by omega) hn ht
theorem lr_J {B : Int} {N k : Nat} {w : Vc} {x : Int32} (h : JN B N w) (hk : k < N) (hx : sml x 9) :
    ∃ r w', f3_letRoll_0 (nI k) x w = some (r, w') ∧ JN B N w' := by
  have hJ := h
  obtain ⟨hI, hN, hw, hC, hF, hs, hd, hn, ht, hr⟩ := h
  obtain ⟨q0, q1, q2, q3, q4, q5, q6⟩ := inv_q hI (c := k) (by omega)
  obtain ⟨c1, c2, c3, c4, c5, c6, c7, c8⟩ := hC k hk
  unfold f3_letRoll_0
  rw [rr_s hN hw hk, ob]
  by_cases h0 : w (90 + 9 * k + 0) = 0
  · rw [if_pos h0]
    by_cases hb : bar w N = true
    · rw [if_pos hb, if_neg n20]
      exact ⟨_, _, rfl, jn_67 hJ⟩
    · rw [if_neg hb, if_pos rfl]
      have hz : mkN (inSec w 1 0) N = 0 := by
        have hb2 : ¬ (mkN (inSec w 1 0) N ≠ 0) := fun q => hb (decide_eq_true q)
        exact Classical.not_not.mp hb2
      have hno := (mk_0 hN).mp hz
      refine ⟨0, upd (upd w (90 + 9 * k + 0) 1) (90 + 9 * k + 2) x, ?_, ?_⟩
      · simp (disch := omega) only [gd_n, cl_n]
      · rw [up_0, s9_u2]
        refine jn_s9 hJ (Int.le_refl _) hk (inv_car hI (by omega) ⟨sml_n (k := 1) (by omega), q1, hx, q3, q4, q5, fun _ => q6 (Or.inr h0)⟩) (fun i _ _ => rfl) (fun m hm => ⟨Int.le_refl _, (hr m hm).2⟩)
          ⟨fun e => absurd rfl e, fun e => absurd e (by decide), fun e => absurd e (by decide), fun e => absurd e (by decide), fun e => absurd e (by decide), c6, c7, c8⟩ (fun _ d hd hne r => ?_) (by omega) (by omega) hn ht
        rw [c2 h0, show (0 : Int32).toInt = 0 from rfl]
        have h2 := hno d hd
        have h3 : ¬ (w (90 + 9 * d + 0) = 1 ∧ w (90 + 9 * d + 4) / 10 = 0) := fun q => by
          have : inSec w 1 0 d = true := decide_eq_true q
          rw [this] at h2; cases h2
        have h4 : ¬ w (90 + 9 * d + 4) < 10 := fun q => h3 ⟨r, (dv_0 (inv_p hI (by omega)) (by omega)).mpr q⟩
        rw [i_lt, show (10 : Int32).toInt = 10 from rfl] at h4
        exact Or.inl (by omega)
  · rw [if_neg h0, if_neg n10]
    exact ⟨_, _, rfl, jn_67 hJ⟩
theorem hm_J {B : Int} {N k : Nat} {w : Vc} (h : JN B N w) (hk : k < N) :
    ∃ r w', f3_harnessMule_0 (nI k) w = some (r, w') ∧ JN B N w' := by
  have hJ := h
  obtain ⟨hI, hN, hw, hC, hF, hs, hd, hn, ht, hr⟩ := h
  obtain ⟨q0, q1, q2, q3, q4, q5, q6⟩ := inv_q hI (c := k) (by omega)
  obtain ⟨c1, c2, c3, c4, c5, c6, c7, c8⟩ := hC k hk
  unfold f3_harnessMule_0
  rw [pr_s hN hw hk, ob]
  by_cases h0 : w (90 + 9 * k + 0) = 2 ∨ w (90 + 9 * k + 0) = 3
  · rw [if_pos h0]
    by_cases hb : fmul w N = 0
    · rw [if_pos hb, if_neg n20]
      exact ⟨_, _, rfl, jn_67 hJ⟩
    · rw [if_neg hb, if_pos rfl]
      refine ⟨0, upd (upd w (90 + 9 * k + 0) 4) (90 + 9 * k + 2) 0, ?_, ?_⟩
      · simp (disch := omega) only [gd_n, cl_n]
      · rw [up_0, s9_u2]
        have h1 : w (90 + 9 * k + 0) ≠ 1 := fun e => h0.elim (fun q => absurd (q.symm.trans e) (by decide)) (fun q => absurd (q.symm.trans e) (by decide))
        have hp : 0 < (w (90 + 9 * k + 4)).toInt := by
          rcases h0 with e | e
          · rw [(c3 e).1]; decide
          · obtain ⟨m, m1, m2, m3, m4⟩ := c4 e
            rw [m3, nI_toInt (by omega)]; omega
        exact jn_s9 hJ (Int.le_refl _) hk (inv_car hI (by omega) ⟨sml_n (k := 4) (by omega), q1, sml_n (k := 0) (by omega), q3, q4, q5, fun e => absurd e (by decide)⟩) (fun i _ _ => rfl) (fun m hm => ⟨Int.le_refl _, (hr m hm).2⟩)
          ⟨fun _ => c1 h1, fun e => absurd e (by decide), fun e => absurd e (by decide), fun e => absurd e (by decide), fun _ => ⟨hp, rfl⟩, c6, c7, c8⟩ (fun e => absurd e (by decide)) (by omega) (by omega) hn ht
  · rw [if_neg h0, if_neg n10]
    exact ⟨_, _, rfl, jn_67 hJ⟩
theorem ad_J {B : Int} {N : Nat} {w : Vc} (h : JN B N w) (hB : 0 ≤ B) (hN8 : N < 8) : ∃ w', f3_addCar_0 w = some (nI N, w') ∧ JN B (N + 1) w' := by
  obtain ⟨hI, hN, hw, hC, hF, hs, hd, hn, ht, hr⟩ := h
  have hz : Inv (s9 (upd w 162 (nI (N + 1))) N 0 0 0 0 0 0 0 0 0) := inv_s9 hI (by omega) (fun i hi => upd_n (by omega)) (by rw [upd_s]; exact sml_n (by omega))
    ⟨sml_n (k := 0) (by omega), sml_n (k := 0) (by omega), sml_n (k := 0) (by omega), sml_n (k := 0) (by omega), sml_n (k := 0) (by omega), sml_n (k := 0) (by omega), fun _ => sml_n (k := 0) (by omega)⟩
  have z0 : (0 : Int32).toInt = 0 := rfl
  have ho : ∀ d k, d < N → k < 9 → s9 (upd w 162 (nI (N + 1))) N 0 0 0 0 0 0 0 0 0 (90 + 9 * d + k) = w (90 + 9 * d + k) := fun d k hd2 hk => by
    rw [s9_d (by omega) hk, upd_n (by omega)]
  refine ⟨s9 (upd w 162 (nI (N + 1))) N 0 0 0 0 0 0 0 0 0, ?_, hz, by omega, by rw [s9_o (by omega), upd_s], fun d hd2 => ?_, fun d e hd2 he hne r1 r2 => ?_, ?_, ?_, ?_, ?_, fun m hm => ?_⟩
  · unfold f3_addCar_0
    have e0 : f0_makeNew_0 N w = some (s9 w N 0 0 0 0 0 0 0 0 0) := rfl
    rw [hw, if_neg (by rw [show (0 : Int32) = nI 0 from rfl, n_lt (by omega) (by omega)]; omega), if_pos (by rw [show (8 : Int32) = nI 8 from rfl, n_lt (by omega) (by omega)]; omega)]
    simp (disch := omega) only [gd_n, cl_n, e0, ob, s9_o, hw, ad_1, s9_uo, upd_s, sb_1]
  · unfold carW
    by_cases e : d = N
    · subst e
      rw [s9_r0, s9_r1, s9_r2, s9_r3, s9_r4, s9_r6, s9_r7, s9_r8]
      exact ⟨fun _ => rfl, fun _ => rfl, fun e => absurd e (by decide), fun e => absurd e (by decide), fun e => absurd e (by decide), ⟨Int.le_refl _, by rw [z0]; omega⟩, ⟨by rw [z0]; omega, by rw [z0]; exact hB⟩, ⟨by rw [z0]; omega, by rw [z0]; exact hB⟩⟩
    · have hd3 : d < N := by omega
      rw [ho d 0 hd3 (by omega), ho d 1 hd3 (by omega), ho d 2 hd3 (by omega), ho d 3 hd3 (by omega), ho d 4 hd3 (by omega), ho d 6 hd3 (by omega), ho d 7 hd3 (by omega), ho d 8 hd3 (by omega)]
      exact carP_mono (hC d hd3) (Int.le_refl _) (fun m hm => by rw [s9_o (by omega), upd_n (by omega)]; exact Int.le_refl _)
  · by_cases e1 : d = N
    · subst e1; rw [s9_r0] at r1; exact absurd r1 (by decide)
    · by_cases e2 : e = N
      · subst e2; rw [s9_r0] at r2; exact absurd r2 (by decide)
      · rw [ho d 0 (by omega) (by omega)] at r1
        rw [ho e 0 (by omega) (by omega)] at r2
        rw [ho d 4 (by omega) (by omega), ho e 4 (by omega) (by omega)]
        exact hF d e (by omega) (by omega) hne r1 r2
  · show _ = _ + _ + (smI (oreI (s9 (upd w 162 (nI (N + 1))) N 0 0 0 0 0 0 0 0 0)) N + oreI (s9 (upd w 162 (nI (N + 1))) N 0 0 0 0 0 0 0 0 0) N)
    rw [smI_congr (f := oreI w) (fun d hd2 => by unfold oreI; rw [ho d 1 hd2 (by omega)])]
    unfold oreI
    rw [s9_r1, s9_o (by omega), s9_o (by omega), s9_o (by omega), upd_n (by omega), upd_n (by omega), upd_n (by omega), z0]
    have : smI (fun c => (w (90 + 9 * c + 1)).toInt) N = smI (oreI w) N := rfl
    omega
  · show _ = smI (delI (s9 (upd w 162 (nI (N + 1))) N 0 0 0 0 0 0 0 0 0)) N + delI (s9 (upd w 162 (nI (N + 1))) N 0 0 0 0 0 0 0 0 0) N
    rw [smI_congr (f := delI w) (fun d hd2 => by unfold delI; rw [ho d 6 hd2 (by omega)])]
    unfold delI
    rw [s9_r6, s9_o (by omega), upd_n (by omega), z0]
    have : smI (fun c => (w (90 + 9 * c + 6)).toInt) N = smI (delI w) N := rfl
    omega
  · rw [s9_o (by omega), s9_o (by omega), s9_o (by omega), upd_n (by omega), upd_n (by omega), upd_n (by omega)]; exact hn
  · rw [s9_o (by omega), upd_n (by omega)]; exact ht
  · rw [s9_o (by omega), upd_n (by omega)]; exact hr m hm
