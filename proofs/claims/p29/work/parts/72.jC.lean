/-! p29: a tick keeps J -/
def stR (N : Nat) (w w' : Nat → Int32) : Prop := (∀ c, c < N → w' (90 + 9 * c + 0) = 1 → w (90 + 9 * c + 0) = 1) ∧ (∀ c, c < N → w (90 + 9 * c + 0) = 3 → w' (90 + 9 * c + 0) = 3) ∧ w' 164 = w 164
theorem stR_r {N : Nat} {w : Nat → Int32} : stR N w w := ⟨fun _ _ h => h, fun _ _ h => h, rfl⟩
theorem stR_t {N : Nat} {w w' w'' : Nat → Int32} (h : stR N w w') (h2 : stR N w' w'') : stR N w w'' := ⟨fun c hc r => h.1 c hc (h2.1 c hc r), fun c hc r => h2.2.1 c hc (h.2.1 c hc r), h2.2.2.trans h.2.2⟩
theorem half_I {a : Int32} (h : sml a 20) : 0 ≤ (a / 2).toInt ∧ (a / 2).toInt ≤ a.toInt := by
  obtain ⟨k, hk, rfl⟩ := h
  rw [show (2 : Int32) = nI 2 from rfl, dv_n (by omega) (by omega) (by omega), nI_toInt (by omega), nI_toInt (by omega)]
  omega
theorem mv_sJ {B : Int} {w : Nat → Int32} {N c : Nat} (h : JN B N w) (hB : B ≤ 1000000000) (hB0 : 0 ≤ B) (hc : c < N) (h0 : w (90 + 9 * c + 0) = 1) :
    ∃ w', f3_moveCar_0 (nI c) w = some w' ∧ JN (B + 20) N w' ∧ stR N w w' ∧ ∀ d, d < 8 → d ≠ c → w' (90 + 9 * d + 0) = w (90 + 9 * d + 0) := by
  have hJ := h
  obtain ⟨hI, hN, hw, hC, hF, hs, hd, hn, ht, hr⟩ := h
  obtain ⟨q0, q1, q2, q3, q4, q5, q6⟩ := inv_q hI (c := c) (by omega)
  obtain ⟨p, hp, e4⟩ := q6 (Or.inl h0)
  obtain ⟨c1, c2, c3, c4, c5, c6, c7, c8⟩ := hC c hc
  have pP : (nI p).toInt = p := nI_toInt (by omega)
  obtain ⟨sp, to, hh, b7, tp, w', r1, r3, s1, s2, s3, s4, s5, s6⟩ := mv_9J (q := w) (N := N) (c := c) (p := p) (a0 := w (90 + 9 * c + 0)) (a1 := w (90 + 9 * c + 1)) (a2 := w (90 + 9 * c + 2)) (a3 := w (90 + 9 * c + 3)) (a5 := w (90 + 9 * c + 5)) (a6 := w (90 + 9 * c + 6)) (a7 := w (90 + 9 * c + 7)) (a8 := w (90 + 9 * c + 8)) hN hw hc (by omega) q2 q5 c6.2 (fun d hd _ => ⟨inv_p hI (by omega), (inv_c hI (c := d) (by omega)).2.2.2.1⟩) (fun d hd hne r => by
    have := hF c d hc hd (fun e => hne e.symm) h0 r
    rw [e4, pP] at this
    exact this)
  rw [← e4, ← s9_of] at r1
  have z1 : (1 : Int32).toInt = 1 := rfl
  have z0 : (0 : Int32).toInt = 0 := rfl
  have b7I : 0 ≤ b7.toInt ∧ b7.toInt ≤ B + 20 := by
    rcases s4 with rfl | rfl
    · omega
    · rw [i_add] <;> rw [z1] <;> omega
  have k1 := sml_i q1 (by omega)
  have k2 := sml_i s2 (by omega)
  refine ⟨w', r1, ?_⟩
  have hmw : ∀ m, m < 30 → (w (60 + m)).toInt ≤ (w (60 + m)).toInt ∧ (w (60 + m)).toInt ≤ B + 20 := fun m hm => ⟨Int.le_refl _, by have := (hr m hm).2; omega⟩
  rcases r3 with ⟨rfl, hto⟩ | ⟨m, hm1, hm, rfl⟩ | ⟨x, hx, rfl⟩
  · have k3 := i_lt.mp hto
    rw [show (300 : Int32).toInt = 300 from rfl] at k3
    refine ⟨jn_s9 hJ (by omega) hc (inv_s9 hI (by omega) (fun i hi => rfl) hI.1 ⟨q0, q1, q2, s1, sml_of (by omega) (by omega) (by omega), s3, fun _ => sml_of (by omega) (by omega) (by omega)⟩) (fun i _ _ => rfl) hmw ?_ ?_ (by omega) (by omega) ⟨hn.1, hn.2.1, by omega⟩ ⟨ht.1, by omega⟩, ⟨fun d hd r => ?_, fun d hd r => ?_, s9_o (by omega)⟩, fun d hd e => s9_d e (by omega)⟩
    · exact ⟨fun e => absurd h0 e, fun e => absurd (h0.symm.trans e) (by decide), fun e => absurd (h0.symm.trans e) (by decide), fun e => absurd (h0.symm.trans e) (by decide), fun e => absurd (h0.symm.trans e) (by decide), s5, ⟨c7.1, by omega⟩, b7I⟩
    · exact fun _ => s6
    · by_cases e : d = c
      · subst e; exact h0
      · rw [s9_d e (by omega)] at r; exact r
    · by_cases e : d = c
      · subst e; exact absurd (h0.symm.trans r) (by decide)
      · rw [s9_d e (by omega)]; exact r
  · have hrm := hr m hm
    have rU : (w (60 + m) + 1).toInt = (w (60 + m)).toInt + 1 := by rw [i_add] <;> rw [z1] <;> omega
    have hmq : ∀ i, i < 30 → (w (60 + i)).toInt ≤ (upd w (60 + m) (w (60 + m) + 1) (60 + i)).toInt ∧ (upd w (60 + m) (w (60 + m) + 1) (60 + i)).toInt ≤ B + 20 := fun i hi => by
      by_cases e : i = m
      · subst e; rw [upd_s, rU]; omega
      · rw [upd_n (by omega)]; exact hmw i hi
    refine ⟨jn_s9 hJ (by omega) hc (inv_s9 hI (by omega) (fun i hi => upd_n (by omega)) (by rw [upd_n (by omega)]; exact hI.1) ⟨sml_n (k := 3) (by omega), q1, q2, sml_n (k := 0) (by omega), sml_n (by omega), s3, fun e => absurd e (by decide)⟩) (fun i hi _ => upd_n (by omega)) hmq ?_ (fun e => absurd e (by decide)) ?_ ?_ ?_ ?_, ⟨fun d hd r => ?_, fun d hd r => ?_, by rw [s9_o (by omega), upd_n (by omega)]⟩, fun d hd e => by rw [s9_d e (by omega), upd_n (by omega)]⟩
    · exact ⟨fun _ => rfl, fun e => absurd e (by decide), fun e => absurd e (by decide), fun _ => ⟨m, hm1, hm, rfl, by rw [upd_s, rU]; omega⟩, fun e => absurd e (by decide), ⟨by rw [z0]; have := sml_i s1 (by omega); omega, s5.2⟩, ⟨c7.1, by omega⟩, b7I⟩
    · rw [upd_n (by omega), upd_n (by omega), upd_n (by omega)]; omega
    · rw [upd_n (by omega)]; omega
    · rw [upd_n (by omega), upd_n (by omega), upd_n (by omega)]; exact ⟨hn.1, hn.2.1, by omega⟩
    · rw [upd_n (by omega)]; exact ⟨ht.1, by omega⟩
    · by_cases e : d = c
      · subst e; exact h0
      · rw [s9_d e (by omega), upd_n (by omega)] at r; exact r
    · by_cases e : d = c
      · subst e; exact absurd (h0.symm.trans r) (by decide)
      · rw [s9_d e (by omega), upd_n (by omega)]; exact r
  · have hxI : 0 ≤ x.toInt ∧ x.toInt ≤ (w (90 + 9 * c + 1)).toInt := by
      rcases hx with rfl | rfl
      · rw [z0]; omega
      · exact half_I q1
    have kd : (w (90 + 9 * c + 1) - x).toInt = (w (90 + 9 * c + 1)).toInt - x.toInt := by rw [i_sub] <;> omega
    have hore : (w (90 + 9 * c + 1)).toInt ≤ smI (oreI w) N := smI_le (f := oreI w) hc (fun d hd => (sml_i (inv_c hI (c := d) (by omega)).2.1 (by omega)).1)
    have k166 : (w 166 + x).toInt = (w 166).toInt + x.toInt := by rw [i_add] <;> omega
    have k165 : (w 165 + (w (90 + 9 * c + 1) - x)).toInt = (w 165).toInt + ((w (90 + 9 * c + 1)).toInt - x.toInt) := by rw [i_add] <;> rw [kd] <;> omega
    have k6 : (w (90 + 9 * c + 6) + (w (90 + 9 * c + 1) - x)).toInt = (w (90 + 9 * c + 6)).toInt + ((w (90 + 9 * c + 1)).toInt - x.toInt) := by rw [i_add] <;> rw [kd] <;> omega
    refine ⟨jn_s9 hJ (by omega) hc (inv_s9 hI (by omega) (fun i hi => by rw [upd_n (by omega), upd_n (by omega)]) (by rw [upd_n (by omega), upd_n (by omega)]; exact hI.1) ⟨sml_n (k := 2) (by omega), sml_n (k := 0) (by omega), sml_n (k := 0) (by omega), sml_n (k := 0) (by omega), sml_n (k := 300) (by omega), s3, fun e => absurd e (by decide)⟩) (fun i hi _ => by rw [upd_n (by omega), upd_n (by omega)]) (fun m hm => by rw [upd_n (by omega), upd_n (by omega)]; exact hmw m hm) ?_ (fun e => absurd e (by decide)) ?_ ?_ ?_ ?_, ⟨fun d hd r => ?_, fun d hd r => ?_, by rw [s9_o (by omega), upd_n (by omega), upd_n (by omega)]⟩, fun d hd e => by rw [s9_d e (by omega), upd_n (by omega), upd_n (by omega)]⟩
    · exact ⟨fun _ => rfl, fun e => absurd e (by decide), fun _ => ⟨rfl, rfl, rfl⟩, fun e => absurd e (by decide), fun e => absurd e (by decide), ⟨by rw [z0]; have := sml_i s1 (by omega); omega, s5.2⟩, ⟨by rw [k6]; omega, by rw [k6]; omega⟩, b7I⟩
    · rw [upd_n (show 164 ≠ 165 by omega), upd_n (show 164 ≠ 166 by omega), upd_s, upd_n (show 166 ≠ 165 by omega), upd_s, k165, k166, z0]; omega
    · rw [upd_s, k165, k6]; omega
    · rw [upd_n (show 164 ≠ 165 by omega), upd_n (show 164 ≠ 166 by omega), upd_s, upd_n (show 166 ≠ 165 by omega), upd_s, k165, k166]; omega
    · rw [upd_n (by omega), upd_n (by omega)]; exact ⟨ht.1, by omega⟩
    · by_cases e : d = c
      · subst e; exact h0
      · rw [s9_d e (by omega), upd_n (by omega), upd_n (by omega)] at r; exact r
    · by_cases e : d = c
      · subst e; exact absurd (h0.symm.trans r) (by decide)
      · rw [s9_d e (by omega), upd_n (by omega), upd_n (by omega)]; exact r
/-- the moves of a tick -/
theorem tm_J {x1 : Int32} {v2 : Nat → Int32} {N : Nat} :
    ∀ (d k fuel : Nat) (B : Int) (w : Nat → Int32), 8 - k = d → k ≤ 8 → 9 ≤ fuel + k → 0 ≤ B → B + 20 * (d : Int) ≤ 1000000000 → JN B N w →
      (∀ j, k ≤ j → j < 8 → v2 j = -1 ∨ ∃ c, c < N ∧ v2 j = nI c ∧ w (90 + 9 * c + 0) = 1) → (∀ i j, k ≤ i → i < j → j < 8 → ∀ c, c < N → v2 i = nI c → v2 j ≠ nI c) →
      ∃ w', JN (B + 20 * d) N w' ∧ stR N w w' ∧ f3_passTick_22 fuel x1 (nI k) w v2 = f3_passTick_59 fu x1 0 w' v2 := by
  intro d
  induction d with
  | zero =>
    intro k fuel B w hd hk hf hB0 hB hJ hm hx
    obtain ⟨m, rfl⟩ : ∃ m, fuel = m + 1 := ⟨fuel - 1, by omega⟩
    obtain rfl : k = 8 := by omega
    exact ⟨w, jn_mono hJ (by omega), stR_r, by simp only [f3_passTick_22, if_pos (show (8 : Int32) ≤ nI 8 by decide)]⟩
  | succ d ih =>
    intro k fuel B w hd hk hf hB0 hB hJ hm hx
    obtain ⟨m, rfl⟩ : ∃ m, fuel = m + 1 := ⟨fuel - 1, by omega⟩
    have h8 : ¬ (8 : Int32) ≤ nI k := by rw [show (8 : Int32) = nI 8 from rfl, n_le (by omega) (by omega)]; omega
    rcases hm k (Nat.le_refl _) (by omega) with e | ⟨c, hc, e, h0⟩
    · obtain ⟨w', p1, p2, p3⟩ := ih (k + 1) m B w (by omega) (by omega) (by omega) hB0 (by omega) hJ (fun j hj hj8 => hm j (by omega) hj8) (fun i j hi hij hj => hx i j (by omega) hij hj)
      refine ⟨w', jn_mono p1 (by omega), p2, ?_⟩
      rw [← p3]
      simp (disch := omega) only [f3_passTick_22, f3_passTick_51, if_neg h8, gd_n, cl_n, e, hasM_s hJ.2.1 hJ.2.2.1, ob, ad_1]
      rfl
    · obtain ⟨w1, q1, q2, q3, q4⟩ := mv_sJ hJ (by omega) hB0 hc h0
      obtain ⟨w', p1, p2, p3⟩ := ih (k + 1) m (B + 20) w1 (by omega) (by omega) (by omega) (by omega) (by omega) q2 (fun j hj hj8 => by
        rcases hm j (by omega) hj8 with e2 | ⟨c2, hc2, e2, h2⟩
        · exact Or.inl e2
        · refine Or.inr ⟨c2, hc2, e2, ?_⟩
          have hne : c2 ≠ c := by
            intro q; subst q
            exact hx k j (Nat.le_refl _) (by omega) hj8 c2 hc2 e e2
          have := hJ.2.1
          rw [q4 c2 (by omega) hne]; exact h2) (fun i j hi hij hj => hx i j (by omega) hij hj)
      refine ⟨w', jn_mono p1 (by omega), stR_t q3 p2, ?_⟩
      rw [← p3]
      have hne : ¬ (1 : Int32) = 0 := by decide
      simp (disch := omega) only [f3_passTick_22, f3_passTick_51, if_neg h8, gd_n, cl_n, e, hasC_s hJ.2.1 hJ.2.2.1 hc, ob, if_neg hne, q1, ad_1]
/-- the end of a tick for a car -/
theorem en_J {B : Int} {w : Nat → Int32} {N c n : Nat} {x1 : Int32} {v2 : Nat → Int32} (h : JN B N w) (hc : c < N) :
    ∃ w', JN B N w' ∧ stR N w w' ∧ f3_passTick_59 (n + 1) x1 (nI c) w v2 = f3_passTick_59 n x1 (nI (c + 1)) w' v2 := by
  have hJ := h
  obtain ⟨hI, hN, hw, hC, hF, hs, hd, hn, ht, hr⟩ := h
  obtain ⟨q0, q1, q2, q3, q4, q5, q6⟩ := inv_q hI (c := c) (by omega)
  obtain ⟨c1, c2, c3, c4, c5, c6, c7, c8⟩ := hC c hc
  have h9 := inv_9 hI
  have hmw : ∀ m, m < 30 → (w (60 + m)).toInt ≤ (w (60 + m)).toInt ∧ (w (60 + m)).toInt ≤ B := fun m hm => ⟨Int.le_refl _, (hr m hm).2⟩
  have hfa : ∀ x, w (90 + 9 * c + 0) = x → x = 1 → ∀ d, d < N → d ≠ c → w (90 + 9 * d + 0) = 1 → (w (90 + 9 * c + 4)).toInt + 10 ≤ (w (90 + 9 * d + 4)).toInt ∨ (w (90 + 9 * d + 4)).toInt + 10 ≤ (w (90 + 9 * c + 4)).toInt := fun x e1 e2 d hd hne r => hF c d hc hd (fun e => hne e.symm) (e1.trans e2) r
  obtain ⟨H, hH⟩ : ∃ H, H = (if x1 &&& (1 <<< (nI c &&& 31)) = 0 then wi (w (90 + 9 * c + 5) - 5) 0 200 else w (90 + 9 * c + 5)) := ⟨_, rfl⟩
  have sH : sml H 200 := by
    rw [hH]
    by_cases g : x1 &&& (1 <<< (nI c &&& 31)) = 0
    · rw [if_pos g]; exact wi_sml (by omega) rfl
    · rw [if_neg g]; exact q5
  have hcN : ¬ N ≤ c := by omega
  generalize hA0 : w (90 + 9 * c + 0) = a0 at *
  generalize hA1 : w (90 + 9 * c + 1) = a1 at *
  generalize hA2 : w (90 + 9 * c + 2) = a2 at *
  generalize hA3 : w (90 + 9 * c + 3) = a3 at *
  generalize hA4 : w (90 + 9 * c + 4) = a4 at *
  generalize hA5 : w (90 + 9 * c + 5) = a5 at *
  generalize hA6 : w (90 + 9 * c + 6) = a6 at *
  generalize hA7 : w (90 + 9 * c + 7) = a7 at *
  generalize hA8 : w (90 + 9 * c + 8) = a8 at *
  have hwE : w = s9 w c a0 a1 a2 a3 a4 a5 a6 a7 a8 := by
    rw [← hA0, ← hA1, ← hA2, ← hA3, ← hA4, ← hA5, ← hA6, ← hA7, ← hA8]; exact s9_of
  have e1 : f3_passTick_59 (n + 1) x1 (nI c) (s9 w c a0 a1 a2 a3 a4 a5 a6 a7 a8) v2 = f3_passTick_84 (f3_passTick_59 n) x1 (nI c) (s9 w c a0 a1 a2 a3 a4 H a6 a7 a8) v2 := by
    rw [hH]
    by_cases g : x1 &&& (1 <<< (nI c &&& 31)) = 0
    · simp (disch := omega) only [f3_passTick_59, s9_o, hw, n_le, if_neg hcN, if_pos g, gd_n, cl_n, f0_coolDown_0, f0_coolDown_19, s9_r5, s9_u5, wi_cool q5]
      by_cases g : a5 ≤ 5
      · simp only [if_pos g, ob]
      · simp only [if_neg g, ob]
    · simp (disch := omega) only [f3_passTick_59, s9_o, hw, n_le, if_neg hcN, if_neg g]
  have e0 : f3_passTick_59 (n + 1) x1 (nI c) w v2 = f3_passTick_84 (f3_passTick_59 n) x1 (nI c) (s9 w c a0 a1 a2 a3 a4 H a6 a7 a8) v2 := by rw [← e1, ← hwE]
  rw [e0]
  have hst : ∀ (b0 b4 : Int32), (b0 = 1 → a0 = 1) → (a0 = 3 → b0 = 3) → stR N w (s9 w c b0 a1 a2 a3 b4 H a6 a7 a8) := fun b0 b4 g1 g3 => by
    refine ⟨fun d hd r => ?_, fun d hd r => ?_, s9_o (by omega)⟩
    · by_cases e : d = c
      · subst e; rw [s9_r0] at r; rw [hA0]; exact g1 r
      · rw [s9_d e (by omega)] at r; exact r
    · by_cases e : d = c
      · subst e; rw [hA0] at r; rw [s9_r0]; exact g3 r
      · rw [s9_d e (by omega)]; exact r
  by_cases h4 : a0 = 4
  · obtain ⟨P, hP⟩ : ∃ P, P = wi (a4 - w 169) 0 300 := ⟨_, rfl⟩
    have sP : sml P 300 := by rw [hP]; exact wi_sml (by omega) rfl
    have hP' : (if 0 < a4 - w 169 then a4 - w 169 else 0) = P := by rw [hP, wi_pull q4 h9]
    have kP := sml_i sP (by omega)
    by_cases hz : P = 0
    · refine ⟨s9 w c 0 a1 a2 a3 P H a6 a7 a8, jn_s9 hJ (Int.le_refl _) hc (inv_s9 hI (by omega) (fun i hi => rfl) hI.1 ⟨sml_n (k := 0) (by omega), q1, q2, q3, sP, sH, fun _ => by rw [hz]; exact sml_n (k := 0) (by omega)⟩) (fun i _ _ => rfl) hmw ?_ (fun e => absurd e (by decide)) (by rw [hA1]; omega) (by rw [hA6]; omega) hn ht, hst _ _ (fun e => absurd e (by decide)) (fun e => absurd (h4.symm.trans e) (by decide)), ?_⟩
      · exact ⟨fun _ => c1 (by rw [h4]; decide), fun _ => hz, fun e => absurd e (by decide), fun e => absurd e (by decide), fun e => absurd e (by decide), c6, c7, c8⟩
      · simp (disch := omega) only [f3_passTick_84, f3_passTick_107, gd_n, cl_n, s9_r0, if_pos h4, f3_pullOn_0, gds1, cl1, f3_pullOn_19, f3_pullOn_31, s9_r4, s9_o, Nat.reduceAdd, hP', s9_u4, if_pos hz, s9_u0, ob, ad_1]
    · refine ⟨s9 w c a0 a1 a2 a3 P H a6 a7 a8, jn_s9 hJ (Int.le_refl _) hc (inv_s9 hI (by omega) (fun i hi => rfl) hI.1 ⟨q0, q1, q2, q3, sP, sH, fun e => e.elim (fun e => absurd (e.symm.trans h4) (by decide)) (fun e => absurd (e.symm.trans h4) (by decide))⟩) (fun i _ _ => rfl) hmw ?_ (fun e => absurd (e.symm.trans h4) (by decide)) (by rw [hA1]; omega) (by rw [hA6]; omega) hn ht, hst _ _ (fun e => e) (fun e => e), ?_⟩
      · refine ⟨c1, fun e => absurd (h4.symm.trans e) (by decide), fun e => absurd (h4.symm.trans e) (by decide), fun e => absurd (h4.symm.trans e) (by decide), fun e => ⟨?_, (c5 e).2⟩, c6, c7, c8⟩
        rw [i_eq, show (0 : Int32).toInt = 0 from rfl] at hz
        omega
      · simp (disch := omega) only [f3_passTick_84, f3_passTick_107, gd_n, cl_n, s9_r0, if_pos h4, f3_pullOn_0, gds1, cl1, f3_pullOn_19, f3_pullOn_31, s9_r4, s9_o, Nat.reduceAdd, hP', s9_u4, if_neg hz, s9_u0, ob, ad_1]
  · refine ⟨s9 w c a0 a1 a2 a3 a4 H a6 a7 a8, jn_s9 hJ (Int.le_refl _) hc (inv_s9 hI (by omega) (fun i hi => rfl) hI.1 ⟨q0, q1, q2, q3, q4, sH, q6⟩) (fun i _ _ => rfl) hmw ⟨c1, c2, c3, c4, c5, c6, c7, c8⟩ (hfa a0 rfl) (by rw [hA1]; omega) (by rw [hA6]; omega) hn ht, hst _ _ (fun e => e) (fun e => e), ?_⟩
    simp (disch := omega) only [f3_passTick_84, f3_passTick_107, gd_n, cl_n, s9_r0, if_neg h4, ad_1]
theorem te_J {B : Int} {x1 : Int32} {v2 : Nat → Int32} {N : Nat} :
    ∀ d c fuel w, N - c = d → c ≤ N → d < fuel → JN B N w → ∃ w', JN B N w' ∧ stR N w w' ∧ f3_passTick_59 fuel x1 (nI c) w v2 = some (w', v2) := by
  intro d
  induction d with
  | zero =>
    intro c fuel w hd hc hf hJ
    obtain ⟨m, rfl⟩ : ∃ m, fuel = m + 1 := ⟨fuel - 1, by omega⟩
    obtain rfl : c = N := by omega
    have := hJ.2.1
    exact ⟨w, hJ, stR_r, by simp (disch := omega) only [f3_passTick_59, hJ.2.2.1, if_pos (Int32.le_refl _)]⟩
  | succ d ih =>
    intro c fuel w hd hc hf hJ
    obtain ⟨m, rfl⟩ : ∃ m, fuel = m + 1 := ⟨fuel - 1, by omega⟩
    obtain ⟨w1, q1, q2, q3⟩ := en_J (n := m) (x1 := x1) (v2 := v2) hJ (show c < N by omega)
    obtain ⟨w', p1, p2, p3⟩ := ih (c + 1) m w1 (by omega) (by omega) (by omega) q1
    exact ⟨w', p1, stR_t q2 p2, q3.trans p3⟩
/-- a tick -/
theorem ti_J {B : Int} {w : Nat → Int32} {N : Nat} (h : JN B N w) (hB0 : 0 ≤ B) (hB : B ≤ 900000000) : JN (B + 200) N (tk w) ∧ stR N w (tk w) := by
  have hJ := h
  obtain ⟨hI, hN, hw, hC, hF, hs, hd, hn, ht, hr⟩ := h
  obtain ⟨w1, hw1⟩ : ∃ w1, w1 = upd w 163 (w 163 + 1) := ⟨_, rfl⟩
  have z1 : (1 : Int32).toInt = 1 := rfl
  have hI1 : Inv w1 := by rw [hw1]; exact inv_upd hI (by omega)
  have hJ1 : JN (B + 1) N w1 := by
    refine jn_o (jn_mono hJ (by omega)) hI1 (fun i h1 h2 => by rw [hw1, upd_n (by omega)]) (by rw [hw1, upd_n (by omega)]) (by rw [hw1, upd_n (by omega)]) (by rw [hw1, upd_n (by omega)]) ?_
    rw [hw1, upd_s, i_add] <;> rw [z1] <;> omega
  have hN1 : w1 162 = nI N := hJ1.2.2.1
  have hst1 : ∀ c, c < N → w1 (90 + 9 * c + 0) = w (90 + 9 * c + 0) := fun c hc => by rw [hw1, upd_n (by omega)]
  obtain ⟨a2, l1, l2⟩ := lu_s (v2 := fun _ => 0) hI1 hN hN1
  obtain ⟨w2, p1, p2, p3⟩ := tm_J (x1 := mkN (isSt w1 1) N) (v2 := a2) (N := N) 8 0 fu (B + 1) w1 rfl (by omega) (by rw [fu_eq]; omega) (by omega) (by omega) hJ1 (fun j _ hj => by
    rcases l2 j hj with ⟨c, hc, hr2, hk, hv⟩ | ⟨hv, _⟩
    · exact Or.inr ⟨c, hc, hv, st_i.mp hr2⟩
    · exact Or.inl hv) (fun i j _ hij hj c hc e1 e2 => by
    rcases l2 i (by omega) with ⟨c1, hc1, r1, k1, v1⟩ | ⟨v1, _⟩
    · rcases l2 j hj with ⟨c2, hc2, r2, k2, v2⟩ | ⟨v2, _⟩
      · rw [e1] at v1
        rw [e2] at v2
        obtain rfl := (n_eq (by omega) (by omega)).mp v1
        obtain rfl := (n_eq (by omega) (by omega)).mp v2
        omega
      · rw [e2] at v2; exact nI_m1 (by omega) v2
    · rw [e1] at v1; exact nI_m1 (by omega) v1)
  obtain ⟨w3, r1, r2, r3⟩ := te_J (x1 := mkN (isSt w1 1) N) (v2 := a2) (N := N) N 0 fu w2 rfl (by omega) (by rw [fu_eq]; omega) p1
  have e : f3_passTick_0 w (fun _ => 0) = some (w3, a2) := by
    unfold f3_passTick_0
    rw [← hw1, cis_s hN hN1, ob, l1, ob]
    exact p3.trans r3
  have e2 : tk w = w3 := by
    unfold tk
    rw [e]
    rfl
  rw [e2]
  have hs1 : stR N w w1 := ⟨fun c hc r => by rw [← hst1 c hc]; exact r, fun c hc r => by rw [hst1 c hc]; exact r, by rw [hw1, upd_n (by omega)]⟩
  exact ⟨jn_mono r1 (by omega), stR_t hs1 (stR_t p2 r2)⟩
