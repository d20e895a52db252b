/-! moving a car: the end -/
theorem c30 : (30 : Int32) = nI 30 := rfl
theorem rl_s {r : Nat → Int32} {c : Nat} {sp to : Int32} (hc : c < 8) : ∀ d k fuel, 30 - k = d → k ≤ 30 → d < fuel →
    (f3_runawaySection_12 r fuel to sp (nI k) = some (-1) ∧ f5_moves_300 fuel (nI c) sp to (nI k) r = f5_moves_402 (nI c) sp to r) ∨
    (∃ m, m < 30 ∧ f3_runawaySection_12 r fuel to sp (nI k) = some (nI m) ∧ f5_moves_300 fuel (nI c) sp to (nI k) r = f5_moves_381 (nI m) (upd (upd (upd r (90 + 9 * c + 0) 3) (90 + 9 * c + 4) (10 * nI m)) (90 + 9 * c + 3) 0)) := by
  intro d
  induction d with
  | zero =>
    intro k fuel hd hk hf
    obtain ⟨n, rfl⟩ : ∃ n, fuel = n + 1 := ⟨fuel - 1, by omega⟩
    obtain rfl : k = 30 := by omega
    refine Or.inl ⟨?_, ?_⟩
    · simp only [f3_runawaySection_12, f3_runawaySection_58, if_pos (show (30 : Int32) ≤ nI 30 by decide)]
    · simp only [f5_moves_300, if_pos (show (30 : Int32) ≤ nI 30 by decide)]
  | succ d ih =>
    intro k fuel hd hk hf
    obtain ⟨n, rfl⟩ : ∃ n, fuel = n + 1 := ⟨fuel - 1, by omega⟩
    have h30 : ¬ (30 : Int32) ≤ nI k := by rw [c30, n_le (by omega) (by omega)]; omega
    by_cases h1 : to < nI k * 10
    · refine Or.inl ⟨?_, ?_⟩
      · simp only [f3_runawaySection_12, f3_runawaySection_58, if_neg h30, if_pos h1]
      · simp only [f5_moves_300, if_neg h30, Int32.mul_comm 10, if_pos h1]
    · by_cases h2 : r (30 + k) ≤ 0
      · have e1 : f3_runawaySection_12 r (n + 1) to sp (nI k) = f3_runawaySection_12 r n to sp (nI (k + 1)) := by
          simp (disch := omega) only [f3_runawaySection_12, f3_runawaySection_52, if_neg h30, if_neg h1, gd_n, cl_n, if_pos h2, ad_1]
        have e2 : f5_moves_300 (n + 1) (nI c) sp to (nI k) r = f5_moves_300 n (nI c) sp to (nI (k + 1)) r := by
          simp (disch := omega) only [f5_moves_300, f5_moves_396, if_neg h30, Int32.mul_comm 10, if_neg h1, ar_30, gd_n, cl_n, if_pos h2, ad_1]
        rw [e1, e2]
        exact ih (k + 1) n (by omega) (by omega) (by omega)
      · by_cases h3 : sp ≤ r (30 + k)
        · have e1 : f3_runawaySection_12 r (n + 1) to sp (nI k) = f3_runawaySection_12 r n to sp (nI (k + 1)) := by
            simp (disch := omega) only [f3_runawaySection_12, f3_runawaySection_52, if_neg h30, if_neg h1, gd_n, cl_n, if_neg h2, if_pos h3, ad_1]
          have e2 : f5_moves_300 (n + 1) (nI c) sp to (nI k) r = f5_moves_300 n (nI c) sp to (nI (k + 1)) r := by
            simp (disch := omega) only [f5_moves_300, f5_moves_396, if_neg h30, Int32.mul_comm 10, if_neg h1, ar_30, gd_n, cl_n, if_neg h2, if_pos h3, ad_1]
          rw [e1, e2]
          exact ih (k + 1) n (by omega) (by omega) (by omega)
        · refine Or.inr ⟨k, by omega, ?_, ?_⟩
          · simp (disch := omega) only [f3_runawaySection_12, if_neg h30, if_neg h1, gd_n, cl_n, if_neg h2, if_neg h3]
          · have h1' : ¬ to < 10 * nI k := by rw [Int32.mul_comm]; exact h1
            simp (disch := omega) only [f5_moves_300, if_neg h30, if_neg h1', ar_30, gd_n, cl_n, if_neg h2, if_neg h3, e5_0, e5_3, e5_4]
/-- what a car's move ends with -/
def mvEnd (q : Nat → Int32) (c : Nat) (a0 a1 a2 a3 a4 a5 a6 a7 a8 : Int32) (w' : Nat → Int32) : Prop :=
  (w' = s9 q c a0 a1 a2 a3 a4 a5 a6 a7 a8 ∧ a4 < 300) ∨
  (∃ m, m < 30 ∧ w' = s9 (upd q (60 + m) (q (60 + m) + 1)) c 3 a1 a2 0 (nI (10 * m)) a5 a6 a7 a8) ∨
  (∃ x y z, w' = s9 (upd (upd q 166 x) 165 y) c 2 0 0 0 300 a5 z a7 a8)
theorem mt_s {q : Nat → Int32} {c p : Nat} {a0 a1 a2 a3 a4 a5 a6 a7 a8 : Int32} (hc : c < 8) (hp : p < 300) : ∃ w', f3_moveCar_88 c (nI p) (s9 q c a0 a1 a2 a3 a4 a5 a6 a7 a8) = some w' ∧
    f5_moves_300 fu (nI c) a3 a4 (nI p / 10 + 1) (s9 q c a0 a1 a2 a3 a4 a5 a6 a7 a8) = some w' ∧ mvEnd q c a0 a1 a2 a3 a4 a5 a6 a7 a8 w' := by
  have hd : nI p / 10 = nI (p / 10) := dv_n (b := 10) (by omega) (by omega) (by omega)
  have hs : f3_runawaySection_0 (s9 q c a0 a1 a2 a3 a4 a5 a6 a7 a8) (nI p) a4 a3 = f3_runawaySection_12 (s9 q c a0 a1 a2 a3 a4 a5 a6 a7 a8) fu a4 a3 (nI (p / 10 + 1)) := by
    unfold f3_runawaySection_0
    rw [hd, ← ad_1]
    by_cases h : 0 < nI (p / 10)
    · rw [if_pos h]
    · rw [if_neg h]
      have : nI (p / 10) = 0 := by
        rw [show (0 : Int32) = nI 0 from rfl, n_lt (by omega) (by omega)] at h
        rw [show (0 : Int32) = nI 0 from rfl, n_eq (by omega) (by omega)]
        omega
      rw [this]
  rw [hd, ad_1]
  have hl := rl_s (r := s9 q c a0 a1 a2 a3 a4 a5 a6 a7 a8) (sp := a3) (to := a4) hc (30 - (p / 10 + 1)) (p / 10 + 1) fu rfl (by omega) (by rw [fu_eq]; omega)
  unfold f3_moveCar_88
  simp only [s9_r3, s9_r4]
  rw [hs]
  rcases hl with ⟨h1, h2⟩ | ⟨m, hm, h1, h2⟩
  · rw [h1, h2, ob, if_pos rfl]
    unfold f5_moves_402 f5_moves_416 f3_moveCar_157
    by_cases h : a4 < 300
    · rw [if_pos h, if_pos h]
      exact ⟨_, rfl, rfl, Or.inl ⟨rfl, h⟩⟩
    · rw [if_neg h, if_neg h]
      unfold f3_arrive_0 f5_arrives_0
      simp (disch := omega) only [s9_r3, e5_1, gd_n, cl_n, s9_r1]
      by_cases h5 : a3 ≤ 25
      · refine ⟨s9 (upd (upd q 166 (q 166 + 0)) 165 (q 165 + (a1 - 0))) c 2 0 0 0 300 a5 (a6 + (a1 - 0)) a7 a8, ?_, ?_, Or.inr (Or.inr ⟨_, _, _, rfl⟩)⟩
        · simp (disch := omega) only [if_pos h5, f3_arrive_19, f3_arrive_45, f3_arrive_60, f3_arrive_65, f3_arrive_72, f3_arrive_77, f3_arrive_82, f3_arrive_87, ob, upd_n, s9_r0, s9_r1, s9_r2, s9_r3, s9_r4, s9_r5, s9_r6, s9_r7, s9_r8, s9_u0, s9_u1, s9_u2, s9_u3, s9_u4, s9_u5, s9_u6, s9_u7, s9_u8, s9_uo, s9_o]
        · simp (disch := omega) only [if_pos h5, f5_arrives_24, f5_arrives_63, f5_arrives_78, f5_arrives_96, f5_arrives_107, f5_arrives_118, f5_arrives_129, ob, upd_n, e5_0, e5_1, e5_2, e5_3, e5_4, e5_6, gdm165, gdm166, cl165, cl166, gd_n, cl_n, s9_r0, s9_r1, s9_r2, s9_r3, s9_r4, s9_r5, s9_r6, s9_r7, s9_r8, s9_u0, s9_u1, s9_u2, s9_u3, s9_u4, s9_u5, s9_u6, s9_u7, s9_u8, s9_uo, s9_o]
      · refine ⟨s9 (upd (upd q 166 (q 166 + a1 / 2)) 165 (q 165 + (a1 - a1 / 2))) c 2 0 0 0 300 a5 (a6 + (a1 - a1 / 2)) a7 a8, ?_, ?_, Or.inr (Or.inr ⟨_, _, _, rfl⟩)⟩
        · simp (disch := omega) only [if_neg h5, f3_arrive_19, f3_arrive_45, f3_arrive_60, f3_arrive_65, f3_arrive_72, f3_arrive_77, f3_arrive_82, f3_arrive_87, ob, upd_n, s9_r0, s9_r1, s9_r2, s9_r3, s9_r4, s9_r5, s9_r6, s9_r7, s9_r8, s9_u0, s9_u1, s9_u2, s9_u3, s9_u4, s9_u5, s9_u6, s9_u7, s9_u8, s9_uo, s9_o]
        · simp (disch := omega) only [if_neg h5, f5_arrives_24, f5_arrives_63, f5_arrives_78, f5_arrives_96, f5_arrives_107, f5_arrives_118, f5_arrives_129, ob, upd_n, e5_0, e5_1, e5_2, e5_3, e5_4, e5_6, gdm165, gdm166, cl165, cl166, gd_n, cl_n, s9_r0, s9_r1, s9_r2, s9_r3, s9_r4, s9_r5, s9_r6, s9_r7, s9_r8, s9_u0, s9_u1, s9_u2, s9_u3, s9_u4, s9_u5, s9_u6, s9_u7, s9_u8, s9_uo, s9_o]
  · rw [h1, h2, ob]
    have hne : ¬ nI m = -1 := nI_m1 (by omega)
    refine ⟨s9 (upd q (60 + m) (q (60 + m) + 1)) c 3 a1 a2 0 (nI (10 * m)) a5 a6 a7 a8, ?_, ?_, Or.inr (Or.inl ⟨m, hm, rfl⟩)⟩
    · simp (disch := omega) only [if_neg hne, gd_n, cl_n, f3_moveCar_134, f3_moveCar_139, f3_moveCar_157, Int32.mul_comm _ 10, mr_10, s9_r0, s9_r1, s9_r2, s9_r3, s9_r4, s9_r5, s9_r6, s9_r7, s9_r8, s9_u0, s9_u1, s9_u2, s9_u3, s9_u4, s9_u5, s9_u6, s9_u7, s9_u8, s9_uo, s9_o]
    · simp (disch := omega) only [f5_moves_381, f5_moves_395, ar_60, gd_n, cl_n, mr_10, s9_r0, s9_r1, s9_r2, s9_r3, s9_r4, s9_r5, s9_r6, s9_r7, s9_r8, s9_u0, s9_u1, s9_u2, s9_u3, s9_u4, s9_u5, s9_u6, s9_u7, s9_u8, s9_uo, s9_o]
