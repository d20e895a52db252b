/-! moving a car: all of it -/
theorem ga_s {w : Nat → Int32} {p : Nat} (hp : p < 300) : f3_gradeAt_0 w (nI p) = some (w (p / 10)) := by
  unfold f3_gradeAt_0 f3_gradeAt_25
  have h1 : ¬ nI (p / 10) < 0 := by rw [show (0 : Int32) = nI 0 from rfl, n_lt (by omega) (by omega)]; omega
  have h2 : ¬ 30 ≤ nI (p / 10) := by rw [c30, n_le (by omega) (by omega)]; omega
  simp (disch := omega) only [dv10, if_neg h1, if_neg h2, gd_n, cl_n]
theorem mv_9 {q : Nat → Int32} {N c p : Nat} {a0 a1 a2 a3 a5 a6 a7 a8 : Int32} (hN : N ≤ 8) (hq : q 162 = nI N) (hc : c < N) (hp : p < 300)
    (h2 : sml a2 9) (h5 : sml a5 200) (hd : ∀ d, d < N → d ≠ c → sml (q (90 + 9 * d + 4)) 300 ∧ sml (q (90 + 9 * d + 3)) 40) :
    ∃ sp to h b7 tp w', f3_moveCar_0 (nI c) (s9 q c a0 a1 a2 a3 (nI p) a5 a6 a7 a8) = some w' ∧ f5_moves_0 (nI c) (s9 q c a0 a1 a2 a3 (nI p) a5 a6 a7 a8) = some w' ∧
      mvEnd q c a0 a1 a2 sp to h a6 b7 tp w' ∧ sml sp 40 ∧ sml to 340 ∧ sml h 200 := by
  obtain ⟨V, hV⟩ : ∃ V, V = wi (a3 + q (p / 10) + a1 / 5 - fF a2 a5 - q 168) 0 40 := ⟨_, rfl⟩
  obtain ⟨T, hT⟩ : ∃ T, T = (if V ≤ a8 then a8 else V) := ⟨_, rfl⟩
  have hT' : (if a8 < V then V else a8) = T := by
    rw [hT]
    by_cases h : V ≤ a8
    · rw [if_pos h, if_neg (not_lt_le.mpr h)]
    · rw [if_neg h, if_pos (not_le_lt.mp h)]
  have sV : sml V 40 := by rw [hV]; exact wi_sml (by omega) rfl
  have sH : sml (heatN a2 V a5) 200 := wi_sml (by omega) rfl
  have e1 : f3_moveCar_0 (nI c) (s9 q c a0 a1 a2 a3 (nI p) a5 a6 a7 a8) = Option.bind (f3_nextBefore_0 (s9 q c a0 a1 a2 V (nI p) (heatN a2 V a5) a6 a7 T) (nI c)) (fun t6 => f3_moveCar_49 c (nI p) t6 (s9 q c a0 a1 a2 V (nI p + V) (heatN a2 V a5) a6 a7 T)) := by
    unfold f3_moveCar_0
    simp (disch := omega) only [gd_n, cl_n, s9_r4, ga_s hp, ob, gds0, cl0, Nat.add_zero, cs_c, ch_c h2 h5, ring1, s9_r3, s9_o, s9_u4, ← hV, hT']
  have e2 : f5_moves_0 (nI c) (s9 q c a0 a1 a2 a3 (nI p) a5 a6 a7 a8) = f5_moves_155 (nI c) (nI p) V T (nI (90 + 9 * c + 8)) (s9 q c a0 a1 a2 a3 (nI p) (heatN a2 V a5) a6 a7 a8) := by
    unfold f5_moves_0
    simp (disch := omega) only [gd_n, cl_n, e5_1, e5_2, e5_3, e5_4, e5_5, gdm168, cl168, dv10, ar_0, Nat.zero_add, s9_r1, s9_r2, s9_r3, s9_r4, s9_r5, s9_o, fo_m, ob, wi_s, ← hV]
    by_cases h : V ≤ 0
    · rw [if_pos h]
      unfold f5_moves_106 heatN
      simp (disch := omega) only [if_pos h, gd_n, cl_n, e5_8, wi_s, ob, s9_u5, s9_r8]
      rw [hT]
      by_cases g : V ≤ a8
      · rw [if_pos g, if_pos g]
      · rw [if_neg g, if_neg g]
    · rw [if_neg h]
      unfold f5_moves_106 heatN
      simp (disch := omega) only [if_neg h, gd_n, cl_n, e5_8, wi_s, ob, s9_u5, s9_r8]
      rw [hT]
      by_cases g : V ≤ a8
      · rw [if_pos g, if_pos g]
      · rw [if_neg g, if_neg g]
  have nx1 := nb_s (w := s9 q c a0 a1 a2 V (nI p) (heatN a2 V a5) a6 a7 T) (N := N) (c := c) (fun d hdN => by
    by_cases e : d = c
    · subst e; rw [s9_r4]; exact ⟨p, by omega, rfl⟩
    · rw [s9_d e (by omega)]; exact (hd d hdN e).1) hN (by rw [s9_o (by omega)]; exact hq) hc
  have nx2 := be_s (w := s9 q c a0 a1 a2 a3 (nI p) (heatN a2 V a5) a6 a7 T) (N := N) (c := c) hN (by rw [s9_o (by omega)]; exact hq) hc
  rw [nx_s9 (b1 := a1) (b2 := a2) (b3 := V) (b5 := heatN a2 V a5) (b6 := a6) (b7 := a7) (b8 := T) hc] at nx2
  rw [e1, e2, nx1, ob]
  unfold f5_moves_155
  simp (disch := omega) only [gd_n, cl_n, s9_u8, nx2, ob]
  have sP := sml_i sV (by omega)
  have pP : (nI p).toInt = p := nI_toInt (by omega)
  have aP : (nI p + V).toInt = p + V.toInt := by rw [i_add] <;> rw [pP] <;> omega
  have plain : ∃ sp to h b7 tp w', f3_moveCar_88 c (nI p) (s9 q c a0 a1 a2 V (nI p + V) (heatN a2 V a5) a6 a7 T) = some w' ∧ f5_moves_269 (nI c) (nI p) V (nI p + V) (s9 q c a0 a1 a2 a3 (nI p) (heatN a2 V a5) a6 a7 T) = some w' ∧
      mvEnd q c a0 a1 a2 sp to h a6 b7 tp w' ∧ sml sp 40 ∧ sml to 340 ∧ sml h 200 := by
    obtain ⟨w', h1, h2, h3⟩ := mt_s (q := q) (a0 := a0) (a1 := a1) (a2 := a2) (a3 := V) (a4 := nI p + V) (a5 := heatN a2 V a5) (a6 := a6) (a7 := a7) (a8 := T) (c := c) (p := p) (by omega) hp
    refine ⟨V, nI p + V, heatN a2 V a5, a7, T, w', h1, ?_, h3, sV, sml_of (by rw [aP]; omega) (by rw [aP]; omega) (by omega), sH⟩
    unfold f5_moves_269
    simp (disch := omega) only [gd_n, cl_n, e5_3, e5_4, s9_u3, s9_u4]
    exact h2
  cases hx : nxN (s9 q c a0 a1 a2 V (nI p) (heatN a2 V a5) a6 a7 T) N c with
  | none =>
    rw [if_pos (show oi none = -1 from rfl)]
    unfold f3_moveCar_49
    rw [if_pos (show oi none = -1 from rfl)]
    exact plain
  | some d =>
    have hb := bf_lt hx
    have hdc : d ≠ c := by
      intro e
      rw [e, isB_self] at hb
      exact absurd hb.2 (by decide)
    obtain ⟨p4, p3⟩ := hd d hb.1 hdc
    have hne : ¬ oi (some d) = -1 := nI_m1 (by omega)
    have q4 := sml_i p4 (by omega)
    have z10 : (10 : Int32).toInt = 10 := rfl
    have bP : (q (90 + 9 * d + 4) - 10).toInt = (q (90 + 9 * d + 4)).toInt - 10 := by rw [i_sub] <;> rw [z10] <;> omega
    unfold f3_moveCar_49
    rw [if_neg hne, if_neg hne]
    simp (disch := omega) only [oi, gd_n, cl_n, e5_4, s9_d hdc, s9_r4]
    by_cases hb2 : nI p + V ≤ q (90 + 9 * d + 4) - 10
    · rw [if_pos hb2, if_pos hb2]
      exact plain
    · rw [if_neg hb2, if_neg hb2]
      obtain ⟨B, hB⟩ : ∃ B, B = q (90 + 9 * d + 4) - 10 := ⟨_, rfl⟩
      obtain ⟨TO, hTO⟩ : ∃ TO, TO = (if nI p < B then B else nI p) := ⟨_, rfl⟩
      obtain ⟨SP, hSP⟩ : ∃ SP, SP = (if q (90 + 9 * d + 3) < V then q (90 + 9 * d + 3) else V) := ⟨_, rfl⟩
      obtain ⟨w', h1, h2, h3⟩ := mt_s (q := q) (a0 := a0) (a1 := a1) (a2 := a2) (a3 := SP) (a4 := TO) (a5 := heatN a2 V a5) (a6 := a6) (a7 := a7 + 1) (a8 := T) (c := c) (p := p) (by omega) hp
      have sTO : sml TO 340 := by
        rw [hTO]
        by_cases g : nI p < B
        · rw [if_pos g, hB]
          rw [i_lt, hB, bP, pP] at g
          exact sml_of (by rw [bP]; omega) (by rw [bP]; omega) (by omega)
        · rw [if_neg g]; exact ⟨p, by omega, rfl⟩
      have sSP : sml SP 40 := by
        rw [hSP]
        by_cases g : q (90 + 9 * d + 3) < V
        · rw [if_pos g]; exact p3
        · rw [if_neg g]; exact sV
      refine ⟨SP, TO, heatN a2 V a5, a7 + 1, T, w', ?_, ?_, h3, sSP, sTO, sH⟩
      · unfold f3_bump_0 f3_bump_30 f3_bump_40
        simp (disch := omega) only [ob, s9_d hdc, s9_u4, s9_r3, s9_u3, s9_r7, s9_u7, ← hB, ← hTO, ← hSP]
        exact h1
      · unfold f5_moves_209 f5_moves_221 f5_moves_253 f5_moves_269
        have g1 : ∀ {α : Type} (f : Int32 → α), (if B ≤ nI p then f (nI p) else f B) = f TO := by
          intro α f
          rw [hTO]
          by_cases g : nI p < B
          · rw [if_pos g, if_neg (not_le_lt.mpr g)]
          · rw [if_neg g, if_pos (not_lt_le.mp g)]
        have g2 : ∀ {α : Type} (f : Int32 → α), (if V ≤ q (90 + 9 * d + 3) then f V else f (q (90 + 9 * d + 3))) = f SP := by
          intro α f
          rw [hSP]
          by_cases g : q (90 + 9 * d + 3) < V
          · rw [if_pos g, if_neg (not_le_lt.mpr g)]
          · rw [if_neg g, if_pos (not_lt_le.mp g)]
        simp (disch := omega) only [e5_3, e5_4, e5_7, gd_n, cl_n, s9_d hdc, s9_u4, s9_r3, s9_u3, s9_r7, s9_u7, ← hB]
        rw [g1 (fun TO => if V ≤ q (90 + 9 * d + 3) then f5_moves_300 fu (nI c) V TO (nI p / 10 + 1) (s9 q c a0 a1 a2 V TO (heatN a2 V a5) a6 (a7 + 1) T) else f5_moves_300 fu (nI c) (q (90 + 9 * d + 3)) TO (nI p / 10 + 1) (s9 q c a0 a1 a2 (q (90 + 9 * d + 3)) TO (heatN a2 V a5) a6 (a7 + 1) T)), g2 (fun SP => f5_moves_300 fu (nI c) SP TO (nI p / 10 + 1) (s9 q c a0 a1 a2 SP TO (heatN a2 V a5) a6 (a7 + 1) T))]
        exact h2
