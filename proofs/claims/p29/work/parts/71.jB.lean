/-! p29: a car's move -/
theorem rl_J {r : Nat → Int32} {sp to : Int32} : ∀ d k fuel, 30 - k = d → k ≤ 30 → d < fuel →
    f3_runawaySection_12 r fuel to sp (nI k) = some (-1) ∨ ∃ m, k ≤ m ∧ m < 30 ∧ f3_runawaySection_12 r fuel to sp (nI k) = some (nI m) := by
  intro d
  induction d with
  | zero =>
    intro k fuel hd hk hf
    obtain ⟨n, rfl⟩ : ∃ n, fuel = n + 1 := ⟨fuel - 1, by omega⟩
    obtain rfl : k = 30 := by omega
    exact Or.inl (by simp only [f3_runawaySection_12, f3_runawaySection_58, if_pos (show (30 : Int32) ≤ nI 30 by decide)])
  | succ d ih =>
    intro k fuel hd hk hf
    obtain ⟨n, rfl⟩ : ∃ n, fuel = n + 1 := ⟨fuel - 1, by omega⟩
    have h30 : ¬ (30 : Int32) ≤ nI k := by rw [c30, n_le (by omega) (by omega)]; omega
    have ih' := ih (k + 1) n (by omega) (by omega) (by omega)
    by_cases h1 : to < nI k * 10
    · exact Or.inl (by simp only [f3_runawaySection_12, f3_runawaySection_58, if_neg h30, if_pos h1])
    · have e1 : f3_runawaySection_12 r (n + 1) to sp (nI k) = f3_runawaySection_12 r n to sp (nI (k + 1)) ∨ f3_runawaySection_12 r (n + 1) to sp (nI k) = some (nI k) := by
        simp (disch := omega) only [f3_runawaySection_12, f3_runawaySection_52, if_neg h30, if_neg h1, gd_n, cl_n, ad_1]
        by_cases h2 : r (30 + k) ≤ 0
        · rw [if_pos h2]; exact Or.inl rfl
        · rw [if_neg h2]
          by_cases h3 : sp ≤ r (30 + k)
          · rw [if_pos h3]; exact Or.inl rfl
          · rw [if_neg h3]; exact Or.inr rfl
      rcases e1 with e1 | e1
      · rw [e1]
        rcases ih' with h | ⟨m, m1, m2, m3⟩
        · exact Or.inl h
        · exact Or.inr ⟨m, by omega, m2, m3⟩
      · exact Or.inr ⟨k, Nat.le_refl _, by omega, e1⟩
/-- what a car's move ends with, in full -/
def mvJ (q : Nat → Int32) (c : Nat) (a0 a1 a2 a3 a4 a5 a6 a7 a8 : Int32) (w' : Nat → Int32) : Prop :=
  (w' = s9 q c a0 a1 a2 a3 a4 a5 a6 a7 a8 ∧ a4 < 300) ∨
  (∃ m, 1 ≤ m ∧ m < 30 ∧ w' = s9 (upd q (60 + m) (q (60 + m) + 1)) c 3 a1 a2 0 (nI (10 * m)) a5 a6 a7 a8) ∨
  (∃ x, (x = 0 ∨ x = a1 / 2) ∧ w' = s9 (upd (upd q 166 (q 166 + x)) 165 (q 165 + (a1 - x))) c 2 0 0 0 300 a5 (a6 + (a1 - x)) a7 a8)
theorem mt_J {q : Nat → Int32} {c p : Nat} {a0 a1 a2 a3 a4 a5 a6 a7 a8 : Int32} (hc : c < 8) (hp : p < 300) : ∃ w', f3_moveCar_88 c (nI p) (s9 q c a0 a1 a2 a3 a4 a5 a6 a7 a8) = some w' ∧ mvJ q c a0 a1 a2 a3 a4 a5 a6 a7 a8 w' := by
  have hd : nI p / 10 = nI (p / 10) := dv_n (b := 10) (by omega) (by omega) (by omega)
  have hs : f3_runawaySection_0 (s9 q c a0 a1 a2 a3 a4 a5 a6 a7 a8) (nI p) a4 a3 = f3_runawaySection_12 (s9 q c a0 a1 a2 a3 a4 a5 a6 a7 a8) fu a4 a3 (nI (p / 10 + 1)) := by
    unfold f3_runawaySection_0
    rw [hd, ← ad_1]
    by_cases h : 0 < nI (p / 10)
    · rw [if_pos h]
    · rw [if_neg h]
      have : nI (p / 10) = 0 := by
        rw [show (0 : Int32) = nI 0 from rfl, n_lt (by omega) (by omega)] at h
        rw [show (0 : Int32) = nI 0 from rfl, n_eq (by omega) (by omega)]
        omega
      rw [this]
  have hl := rl_J (r := s9 q c a0 a1 a2 a3 a4 a5 a6 a7 a8) (sp := a3) (to := a4) (30 - (p / 10 + 1)) (p / 10 + 1) fu rfl (by omega) (by rw [fu_eq]; omega)
  unfold f3_moveCar_88
  simp only [s9_r3, s9_r4]
  rw [hs]
  rcases hl with h1 | ⟨m, hk, hm, h1⟩
  · rw [h1, ob, if_pos rfl]
    unfold f3_moveCar_157
    by_cases h : a4 < 300
    · rw [if_pos h]
      exact ⟨_, rfl, Or.inl ⟨rfl, h⟩⟩
    · rw [if_neg h]
      unfold f3_arrive_0
      simp (disch := omega) only [s9_r3, s9_r1]
      by_cases h5 : a3 ≤ 25
      · refine ⟨s9 (upd (upd q 166 (q 166 + 0)) 165 (q 165 + (a1 - 0))) c 2 0 0 0 300 a5 (a6 + (a1 - 0)) a7 a8, ?_, Or.inr (Or.inr ⟨0, Or.inl rfl, rfl⟩)⟩
        simp (disch := omega) only [if_pos h5, f3_arrive_19, f3_arrive_45, f3_arrive_60, f3_arrive_65, f3_arrive_72, f3_arrive_77, f3_arrive_82, f3_arrive_87, ob, upd_n, s9_r0, s9_r1, s9_r2, s9_r3, s9_r4, s9_r5, s9_r6, s9_r7, s9_r8, s9_u0, s9_u1, s9_u2, s9_u3, s9_u4, s9_u5, s9_u6, s9_u7, s9_u8, s9_uo, s9_o]
      · refine ⟨s9 (upd (upd q 166 (q 166 + a1 / 2)) 165 (q 165 + (a1 - a1 / 2))) c 2 0 0 0 300 a5 (a6 + (a1 - a1 / 2)) a7 a8, ?_, Or.inr (Or.inr ⟨a1 / 2, Or.inr rfl, rfl⟩)⟩
        simp (disch := omega) only [if_neg h5, f3_arrive_19, f3_arrive_45, f3_arrive_60, f3_arrive_65, f3_arrive_72, f3_arrive_77, f3_arrive_82, f3_arrive_87, ob, upd_n, s9_r0, s9_r1, s9_r2, s9_r3, s9_r4, s9_r5, s9_r6, s9_r7, s9_r8, s9_u0, s9_u1, s9_u2, s9_u3, s9_u4, s9_u5, s9_u6, s9_u7, s9_u8, s9_uo, s9_o]
  · rw [h1, ob]
    have hne : ¬ nI m = -1 := nI_m1 (by omega)
    refine ⟨s9 (upd q (60 + m) (q (60 + m) + 1)) c 3 a1 a2 0 (nI (10 * m)) a5 a6 a7 a8, ?_, Or.inr (Or.inl ⟨m, by omega, hm, rfl⟩)⟩
    simp (disch := omega) only [if_neg hne, gd_n, cl_n, f3_moveCar_134, f3_moveCar_139, f3_moveCar_157, Int32.mul_comm _ 10, mr_10, s9_r0, s9_r1, s9_r2, s9_r3, s9_r4, s9_r5, s9_r6, s9_r7, s9_r8, s9_u0, s9_u1, s9_u2, s9_u3, s9_u4, s9_u5, s9_u6, s9_u7, s9_u8, s9_uo, s9_o]
theorem bf_none {B : Nat → Bool} {p : Nat → Int32} : ∀ {n : Nat}, bfN B p n = none → ∀ d, d < n → ¬ B d = true
  | 0, _, d, hd => by omega
  | n + 1, h, d, hd => by
    by_cases hb : B n = true
    · cases hm : bfN B p n with
      | none => rw [bfN, if_pos hb, hm] at h; exact absurd h (by simp)
      | some k =>
        rw [bfN, if_pos hb, hm] at h
        by_cases hp : p k < p n
        · simp only [if_pos hp] at h; cases h
        · simp only [if_neg hp] at h; cases h
    · rw [bfN, if_neg hb] at h
      by_cases e : d = n
      · rw [e]; exact hb
      · exact bf_none h d (by omega)
theorem bf_min {B : Nat → Bool} {p : Nat → Int32} {k : Nat} : ∀ {n : Nat}, bfN B p n = some k → ∀ d, d < n → B d = true → (p k).toInt ≤ (p d).toInt
  | 0, h, d, hd, _ => by omega
  | n + 1, h, d, hd, hB => by
    by_cases hb : B n = true
    · cases hm : bfN B p n with
      | none =>
        rw [bfN, if_pos hb, hm] at h
        simp only [Option.some.injEq] at h
        subst h
        by_cases e : d = n
        · rw [e]; exact Int.le_refl _
        · exact absurd hB (bf_none hm d (by omega))
      | some k2 =>
        rw [bfN, if_pos hb, hm] at h
        by_cases hp : p k2 < p n
        · simp only [if_pos hp, Option.some.injEq] at h
          subst h
          have h3 := i_lt.mp hp
          by_cases e : d = n
          · rw [e]; omega
          · exact bf_min hm d (by omega) hB
        · simp only [if_neg hp, Option.some.injEq] at h
          subst h
          rw [i_lt] at hp
          by_cases e : d = n
          · rw [e]; exact Int.le_refl _
          · have := bf_min hm d (by omega) hB
            omega
    · rw [bfN, if_neg hb] at h
      by_cases e : d = n
      · rw [e] at hB; exact absurd hB hb
      · exact bf_min h d (by omega) hB
theorem mv_9J {q : Nat → Int32} {N c p : Nat} {a0 a1 a2 a3 a5 a6 a7 a8 : Int32} (hN : N ≤ 8) (hq : q 162 = nI N) (hc : c < N) (hp : p < 300)
    (h2 : sml a2 9) (h5 : sml a5 200) (h8 : a8.toInt ≤ 40) (hd : ∀ d, d < N → d ≠ c → sml (q (90 + 9 * d + 4)) 300 ∧ sml (q (90 + 9 * d + 3)) 40)
    (hf : ∀ d, d < N → d ≠ c → q (90 + 9 * d + 0) = 1 → (p : Int) + 10 ≤ (q (90 + 9 * d + 4)).toInt ∨ (q (90 + 9 * d + 4)).toInt + 10 ≤ (p : Int)) :
    ∃ sp to h b7 tp w', f3_moveCar_0 (nI c) (s9 q c a0 a1 a2 a3 (nI p) a5 a6 a7 a8) = some w' ∧ mvJ q c a0 a1 a2 sp to h a6 b7 tp w' ∧ sml sp 40 ∧ sml to 340 ∧ sml h 200 ∧ (b7 = a7 ∨ b7 = a7 + 1) ∧ (sp.toInt ≤ tp.toInt ∧ tp.toInt ≤ 40) ∧
      (∀ d, d < N → d ≠ c → q (90 + 9 * d + 0) = 1 → to.toInt + 10 ≤ (q (90 + 9 * d + 4)).toInt ∨ (q (90 + 9 * d + 4)).toInt + 10 ≤ to.toInt) := by
  obtain ⟨V, hV⟩ : ∃ V, V = wi (a3 + q (p / 10) + a1 / 5 - fF a2 a5 - q 168) 0 40 := ⟨_, rfl⟩
  obtain ⟨T, hT⟩ : ∃ T, T = (if V ≤ a8 then a8 else V) := ⟨_, rfl⟩
  have hT' : (if a8 < V then V else a8) = T := by
    rw [hT]
    by_cases h : V ≤ a8
    · rw [if_pos h, if_neg (not_lt_le.mpr h)]
    · rw [if_neg h, if_pos (not_le_lt.mp h)]
  have sV : sml V 40 := by rw [hV]; exact wi_sml (by omega) rfl
  have sH : sml (heatN a2 V a5) 200 := wi_sml (by omega) rfl
  have sP := sml_i sV (by omega)
  have hTV : V.toInt ≤ T.toInt ∧ T.toInt ≤ 40 := by
    rw [hT]
    by_cases h : V ≤ a8
    · rw [if_pos h]; rw [i_le] at h; omega
    · rw [if_neg h]; omega
  have e1 : f3_moveCar_0 (nI c) (s9 q c a0 a1 a2 a3 (nI p) a5 a6 a7 a8) = Option.bind (f3_nextBefore_0 (s9 q c a0 a1 a2 V (nI p) (heatN a2 V a5) a6 a7 T) (nI c)) (fun t6 => f3_moveCar_49 c (nI p) t6 (s9 q c a0 a1 a2 V (nI p + V) (heatN a2 V a5) a6 a7 T)) := by
    unfold f3_moveCar_0
    simp (disch := omega) only [gd_n, cl_n, s9_r4, ga_s hp, ob, gds0, cl0, Nat.add_zero, cs_c, ch_c h2 h5, ring1, s9_r3, s9_o, s9_u4, ← hV, hT']
  have nx1 := nb_s (w := s9 q c a0 a1 a2 V (nI p) (heatN a2 V a5) a6 a7 T) (N := N) (c := c) (fun d hdN => by
    by_cases e : d = c
    · subst e; rw [s9_r4]; exact ⟨p, by omega, rfl⟩
    · rw [s9_d e (by omega)]; exact (hd d hdN e).1) hN (by rw [s9_o (by omega)]; exact hq) hc
  rw [e1, nx1, ob]
  have pP : (nI p).toInt = p := nI_toInt (by omega)
  have aP : (nI p + V).toInt = p + V.toInt := by rw [i_add] <;> rw [pP] <;> omega
  -- who is ahead
  have hah : ∀ d, d < N → d ≠ c → q (90 + 9 * d + 0) = 1 → (p : Int) + 10 ≤ (q (90 + 9 * d + 4)).toInt → isB (s9 q c a0 a1 a2 V (nI p) (heatN a2 V a5) a6 a7 T) c d = true := fun d hdN hne r1 r2 => by
    refine isB_i.mpr ⟨by rw [s9_d hne (by omega)]; exact r1, ahead_i.mpr (Or.inl ?_)⟩
    rw [s9_r4, s9_d hne (by omega), i_lt, pP]
    omega
  have plain : (∀ d, d < N → d ≠ c → q (90 + 9 * d + 0) = 1 → (p : Int) + 10 ≤ (q (90 + 9 * d + 4)).toInt → p + V.toInt + 10 ≤ (q (90 + 9 * d + 4)).toInt) → ∃ sp to h b7 tp w', f3_moveCar_88 c (nI p) (s9 q c a0 a1 a2 V (nI p + V) (heatN a2 V a5) a6 a7 T) = some w' ∧ mvJ q c a0 a1 a2 sp to h a6 b7 tp w' ∧ sml sp 40 ∧ sml to 340 ∧ sml h 200 ∧ (b7 = a7 ∨ b7 = a7 + 1) ∧ (sp.toInt ≤ tp.toInt ∧ tp.toInt ≤ 40) ∧
      (∀ d, d < N → d ≠ c → q (90 + 9 * d + 0) = 1 → to.toInt + 10 ≤ (q (90 + 9 * d + 4)).toInt ∨ (q (90 + 9 * d + 4)).toInt + 10 ≤ to.toInt) := by
    intro hpl
    obtain ⟨w', h1, h3⟩ := mt_J (q := q) (a0 := a0) (a1 := a1) (a2 := a2) (a3 := V) (a4 := nI p + V) (a5 := heatN a2 V a5) (a6 := a6) (a7 := a7) (a8 := T) (c := c) (p := p) (by omega) hp
    refine ⟨V, nI p + V, heatN a2 V a5, a7, T, w', h1, h3, sV, sml_of (by rw [aP]; omega) (by rw [aP]; omega) (by omega), sH, Or.inl rfl, hTV, fun d hdN hne r1 => ?_⟩
    rw [aP]
    rcases hf d hdN hne r1 with r2 | r2
    · exact Or.inl (hpl d hdN hne r1 r2)
    · exact Or.inr (by omega)
  cases hx : nxN (s9 q c a0 a1 a2 V (nI p) (heatN a2 V a5) a6 a7 T) N c with
  | none =>
    unfold f3_moveCar_49
    rw [if_pos (show oi none = -1 from rfl)]
    exact plain (fun d hdN hne r1 r2 => absurd (hah d hdN hne r1 r2) (bf_none hx d hdN))
  | some d =>
    have hb := bf_lt hx
    have hdc : d ≠ c := by
      intro e
      rw [e, isB_self] at hb
      exact absurd hb.2 (by decide)
    obtain ⟨p4, p3⟩ := hd d hb.1 hdc
    have hne : ¬ oi (some d) = -1 := nI_m1 (by omega)
    have q4 := sml_i p4 (by omega)
    have z10 : (10 : Int32).toInt = 10 := rfl
    have bP : (q (90 + 9 * d + 4) - 10).toInt = (q (90 + 9 * d + 4)).toInt - 10 := by rw [i_sub] <;> rw [z10] <;> omega
    have hmin : ∀ e, e < N → e ≠ c → q (90 + 9 * e + 0) = 1 → (p : Int) + 10 ≤ (q (90 + 9 * e + 4)).toInt → (q (90 + 9 * d + 4)).toInt ≤ (q (90 + 9 * e + 4)).toInt := fun e he hne2 r1 r2 => by
      have := bf_min hx e he (hah e he hne2 r1 r2)
      rw [s9_d hdc (by omega), s9_d hne2 (by omega)] at this
      exact this
    have hdst := isB_i.mp hb.2
    rw [s9_d hdc (by omega)] at hdst
    have hdp : (p : Int) + 10 ≤ (q (90 + 9 * d + 4)).toInt := by
      rcases hf d hb.1 hdc hdst.1 with r | r
      · exact r
      · have := ahead_i.mp hdst.2
        rw [s9_r4, s9_d hdc (by omega), i_lt, pP, i_eq, pP] at this
        omega
    unfold f3_moveCar_49
    rw [if_neg hne]
    simp (disch := omega) only [oi, gd_n, cl_n, s9_d hdc, s9_r4]
    by_cases hb2 : nI p + V ≤ q (90 + 9 * d + 4) - 10
    · rw [if_pos hb2]
      rw [i_le, aP, bP] at hb2
      exact plain (fun e he hne2 r1 r2 => by have := hmin e he hne2 r1 r2; omega)
    · rw [if_neg hb2]
      obtain ⟨B, hB⟩ : ∃ B, B = q (90 + 9 * d + 4) - 10 := ⟨_, rfl⟩
      obtain ⟨TO, hTO⟩ : ∃ TO, TO = (if nI p < B then B else nI p) := ⟨_, rfl⟩
      obtain ⟨SP, hSP⟩ : ∃ SP, SP = (if q (90 + 9 * d + 3) < V then q (90 + 9 * d + 3) else V) := ⟨_, rfl⟩
      obtain ⟨w', h1, h3⟩ := mt_J (q := q) (a0 := a0) (a1 := a1) (a2 := a2) (a3 := SP) (a4 := TO) (a5 := heatN a2 V a5) (a6 := a6) (a7 := a7 + 1) (a8 := T) (c := c) (p := p) (by omega) hp
      have tTO : TO.toInt = (q (90 + 9 * d + 4)).toInt - 10 := by
        rw [hTO]
        by_cases g : nI p < B
        · rw [if_pos g, hB, bP]
        · rw [if_neg g, pP]
          rw [i_lt, hB, bP, pP] at g
          omega
      have sTO : sml TO 340 := sml_of (by omega) (by omega) (by omega)
      have q3 := sml_i p3 (by omega)
      have sSP : sml SP 40 ∧ SP.toInt ≤ V.toInt := by
        rw [hSP]
        by_cases g : q (90 + 9 * d + 3) < V
        · rw [if_pos g]; rw [i_lt] at g; exact ⟨p3, by omega⟩
        · rw [if_neg g]; exact ⟨sV, Int.le_refl _⟩
      refine ⟨SP, TO, heatN a2 V a5, a7 + 1, T, w', ?_, h3, sSP.1, sTO, sH, Or.inr rfl, ⟨by omega, hTV.2⟩, fun e he hne2 r1 => ?_⟩
      · unfold f3_bump_0 f3_bump_30 f3_bump_40
        simp (disch := omega) only [ob, s9_d hdc, s9_u4, s9_r3, s9_u3, s9_r7, s9_u7, ← hB, ← hTO, ← hSP]
        exact h1
      · rw [tTO]
        rcases hf e he hne2 r1 with r2 | r2
        · have := hmin e he hne2 r1 r2; exact Or.inl (by omega)
        · exact Or.inr (by omega)
