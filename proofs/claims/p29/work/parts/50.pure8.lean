/-! the end of a tick for a car, both -/
theorem en_9 {q : Nat → Int32} {N c n n' : Nat} {a0 a1 a2 a3 a4 a5 a6 a7 a8 x1 : Int32} {v2 v7 v8 : Nat → Int32} (R : Bool) (hN : N ≤ 8) (hq : q 162 = nI N) (hc : c < N) (hQ : carQ a0 a1 a2 a3 a4 a5 a6 a7 a8) (h9 : sml (q 169) 20)
    (hb : x1 &&& (1 <<< (nI c &&& 31)) = 0 ↔ R = false) (h8 : v8 c = 0 ↔ R = false) :
    ∃ st pl h, carQ st a1 a2 a3 pl h a6 a7 a8 ∧
      f3_passTick_59 (n + 1) x1 (nI c) (s9 q c a0 a1 a2 a3 a4 a5 a6 a7 a8) v2 = f3_passTick_59 n x1 (nI (c + 1)) (s9 q c st a1 a2 a3 pl h a6 a7 a8) v2 ∧
      f5_tick_88 (n' + 1) (nI c) (s9 q c a0 a1 a2 a3 a4 a5 a6 a7 a8) v7 v8 = f5_tick_88 n' (nI (c + 1)) (s9 q c st a1 a2 a3 pl h a6 a7 a8) v7 v8 := by
  obtain ⟨q0, q1, q2, q3, q4, q5, q6⟩ := hQ
  obtain ⟨H, hH⟩ : ∃ H, H = (if R = true then a5 else wi (a5 - 5) 0 200) := ⟨_, rfl⟩
  have sH : sml H 200 := by
    rw [hH]
    cases R
    · rw [if_neg (by decide)]; exact wi_sml (by omega) rfl
    · rw [if_pos rfl]; exact q5
  have hcN : ¬ N ≤ c := by omega
  have e1 : f3_passTick_59 (n + 1) x1 (nI c) (s9 q c a0 a1 a2 a3 a4 a5 a6 a7 a8) v2 = f3_passTick_84 (f3_passTick_59 n) x1 (nI c) (s9 q c a0 a1 a2 a3 a4 H a6 a7 a8) v2 := by
    rw [hH]
    cases R
    · simp (disch := omega) only [f3_passTick_59, s9_o, hq, n_le, if_neg hcN, hb, if_pos, gd_n, cl_n, f0_coolDown_0, f0_coolDown_19, s9_r5, s9_u5, wi_cool q5]
      by_cases g : a5 ≤ 5
      · simp only [if_pos g, ob]; rfl
      · simp only [if_neg g, ob]; rfl
    · have hb' : ¬ x1 &&& (1 <<< (nI c &&& 31)) = 0 := fun e => absurd (hb.mp e) (by decide)
      simp (disch := omega) only [f3_passTick_59, s9_o, hq, n_le, if_neg hcN, if_neg hb']
      rfl
  have e2 : f5_tick_88 (n' + 1) (nI c) (s9 q c a0 a1 a2 a3 a4 a5 a6 a7 a8) v7 v8 = f5_tick_150 (f5_tick_88 n') (nI c) H (nI (90 + 9 * c + 5)) (s9 q c a0 a1 a2 a3 a4 a5 a6 a7 a8) v7 v8 := by
    rw [hH]
    cases R
    · have h8' : v8 c = 0 := h8.mpr rfl
      simp (disch := omega) only [f5_tick_88, gdm162, cl162, s9_o, hq, n_le, if_neg hcN, gd_n, cl_n, h8', e5_5, s9_r5, wi_s, ob]
      rfl
    · have h8' : ¬ v8 c = 0 := fun e => absurd (h8.mp e) (by decide)
      simp (disch := omega) only [f5_tick_88, gdm162, cl162, s9_o, hq, n_le, if_neg hcN, gd_n, cl_n, if_neg h8', e5_5, s9_r5]
      rfl
  rw [e1, e2]
  by_cases h4 : a0 = 4
  · obtain ⟨P, hP⟩ : ∃ P, P = wi (a4 - q 169) 0 300 := ⟨_, rfl⟩
    have sP : sml P 300 := by rw [hP]; exact wi_sml (by omega) rfl
    have hP' : (if 0 < a4 - q 169 then a4 - q 169 else 0) = P := by rw [hP, wi_pull q4 h9]
    by_cases hz : P = 0
    · refine ⟨0, P, H, ⟨sml_n (k := 0) (by omega), q1, q2, q3, sP, sH, fun _ => by rw [hz]; exact sml_n (k := 0) (by omega)⟩, ?_, ?_⟩
      · simp (disch := omega) only [f3_passTick_84, f3_passTick_107, gd_n, cl_n, s9_r0, if_pos h4, f3_pullOn_0, gds1, cl1, f3_pullOn_19, f3_pullOn_31, s9_r4, s9_o, Nat.reduceAdd, hP', s9_u4, if_pos hz, s9_u0, ob, ad_1]
      · simp (disch := omega) only [f5_tick_150, f5_tick_223, f5_tick_224, gd_n, cl_n, s9_u5, isIn_o, s9_r0, b01_t h4, ob, e5_4, e5_0, gdm169, cl169, s9_r4, s9_o, wi_s, ← hP, s9_u4, if_pos hz, s9_u0, ad_1]
        rfl
    · refine ⟨a0, P, H, ⟨q0, q1, q2, q3, sP, sH, fun e => e.elim (fun e => absurd (e.symm.trans h4) (by decide)) (fun e => absurd (e.symm.trans h4) (by decide))⟩, ?_, ?_⟩
      · simp (disch := omega) only [f3_passTick_84, f3_passTick_107, gd_n, cl_n, s9_r0, if_pos h4, f3_pullOn_0, gds1, cl1, f3_pullOn_19, f3_pullOn_31, s9_r4, s9_o, Nat.reduceAdd, hP', s9_u4, if_neg hz, s9_u0, ob, ad_1]
      · simp (disch := omega) only [f5_tick_150, f5_tick_223, f5_tick_224, gd_n, cl_n, s9_u5, isIn_o, s9_r0, b01_t h4, ob, e5_4, e5_0, gdm169, cl169, s9_r4, s9_o, wi_s, ← hP, s9_u4, if_neg hz, s9_u0, ad_1]
        rw [h4]
        rfl
  · refine ⟨a0, a4, H, ⟨q0, q1, q2, q3, q4, sH, q6⟩, ?_, ?_⟩
    · simp (disch := omega) only [f3_passTick_84, f3_passTick_107, gd_n, cl_n, s9_r0, if_neg h4, ad_1]
    · simp (disch := omega) only [f5_tick_150, f5_tick_224, gd_n, cl_n, s9_u5, isIn_o, s9_r0, b01_f h4, ob, ad_1]
      rfl
theorem inv_9 {w : Nat → Int32} (h : Inv w) : sml (w 169) 20 := h.2.2.1.2.1
theorem en_s {w : Nat → Int32} {N c n n' : Nat} {x1 : Int32} {v2 v7 v8 : Nat → Int32} (R : Bool) (hI : Inv w) (hN : N ≤ 8) (hw : w 162 = nI N) (hc : c < N)
    (hb : x1 &&& (1 <<< (nI c &&& 31)) = 0 ↔ R = false) (h8 : v8 c = 0 ↔ R = false) :
    ∃ w', Inv w' ∧ w' 162 = nI N ∧ f3_passTick_59 (n + 1) x1 (nI c) w v2 = f3_passTick_59 n x1 (nI (c + 1)) w' v2 ∧
      f5_tick_88 (n' + 1) (nI c) w v7 v8 = f5_tick_88 n' (nI (c + 1)) w' v7 v8 := by
  obtain ⟨st, pl, h, hQ, e1, e2⟩ := en_9 (q := w) (N := N) (c := c) (n := n) (n' := n') (a0 := w (90 + 9 * c + 0)) (a1 := w (90 + 9 * c + 1)) (a2 := w (90 + 9 * c + 2)) (a3 := w (90 + 9 * c + 3)) (a4 := w (90 + 9 * c + 4)) (a5 := w (90 + 9 * c + 5)) (a6 := w (90 + 9 * c + 6)) (a7 := w (90 + 9 * c + 7)) (a8 := w (90 + 9 * c + 8)) (x1 := x1) (v2 := v2) (v7 := v7) (v8 := v8) R hN hw hc (inv_q hI (by omega)) (inv_9 hI) hb h8
  rw [← s9_of] at e1 e2
  exact ⟨_, inv_s9 hI (by omega) (fun i hi => rfl) hI.1 hQ, by rw [s9_o (by omega)]; exact hw, e1, e2⟩
