/-! moving a car -/
def wi (x lo hi : Int32) : Int32 := if lo ≤ x then (if x ≤ hi then x else hi) else lo
theorem wi_s {x lo hi : Int32} : f5_within_0 x lo hi = some (wi x lo hi) := by
  unfold f5_within_0 f5_within_19 wi
  by_cases h : lo ≤ x
  · rw [if_pos h, if_pos h]
    by_cases h2 : x ≤ hi
    · rw [if_pos h2, if_pos h2]
    · rw [if_neg h2, if_neg h2]
  · rw [if_neg h, if_neg h]
theorem wi_sml {x hi : Int32} {M : Nat} (hM : M < 2 ^ 31) (h : hi = nI M) : sml (wi x 0 hi) M := by
  subst h
  have z0 : (0 : Int32).toInt = 0 := rfl
  have zM := nI_toInt hM
  unfold wi
  by_cases h : 0 ≤ x
  · rw [if_pos h]
    have h' := i_le.mp h
    rw [z0] at h'
    by_cases h2 : x ≤ nI M
    · rw [if_pos h2]
      have h2' := i_le.mp h2
      rw [zM] at h2'
      exact sml_of h' h2' hM
    · rw [if_neg h2]; exact ⟨M, Nat.le_refl _, rfl⟩
  · rw [if_neg h]; exact ⟨0, by omega, rfl⟩
theorem cl_wi {x : Int32} : (if 0 < (if x < 40 then x else 40) then (if x < 40 then x else 40) else 0) = wi x 0 40 := by
  have z0 : (0 : Int32).toInt = 0 := rfl
  have z4 : (40 : Int32).toInt = 40 := rfl
  unfold wi
  by_cases h : x < 40
  · rw [if_pos h]
    have h' := i_lt.mp h
    rw [z4] at h'
    by_cases h2 : 0 < x
    · have h2' := i_lt.mp h2
      rw [z0] at h2'
      rw [if_pos h2, if_pos (by rw [i_le, z0]; omega), if_pos (by rw [i_le, z4]; omega)]
    · rw [if_neg h2]
      have h2' : ¬ (0 : Int32).toInt < x.toInt := fun q => h2 (i_lt.mpr q)
      rw [z0] at h2'
      by_cases h3 : 0 ≤ x
      · have h3' := i_le.mp h3
        rw [z0] at h3'
        rw [if_pos h3, if_pos (by rw [i_le, z4]; omega)]
        rw [i_eq, z0]; omega
      · rw [if_neg h3]
  · rw [if_neg h, if_pos (by decide)]
    have h' : ¬ x.toInt < (40 : Int32).toInt := fun q => h (i_lt.mpr q)
    rw [z4] at h'
    rw [if_pos (by rw [i_le, z0]; omega)]
    by_cases h3 : x ≤ 40
    · have h3' := i_le.mp h3
      rw [z4] at h3'
      rw [if_pos h3, i_eq, z4]; omega
    · rw [if_neg h3]
def fF (a2 a5 : Int32) : Int32 := if 100 < a5 then a2 / 2 else a2
def heatN (a2 v a5 : Int32) : Int32 := wi (a5 + (if v ≤ 0 then -5 else a2)) 0 200
theorem dv10 {a : Nat} (h : a < 2 ^ 31) : nI a / 10 = nI (a / 10) := dv_n (b := 10) h (by omega) (by omega)
section
variable {q : Nat → Int32} {c : Nat} {a0 a1 a2 a3 a4 a5 a6 a7 a8 : Int32}
theorem fo_c : f0_force_0 c (s9 q c a0 a1 a2 a3 a4 a5 a6 a7 a8) = some (fF a2 a5) := by
  unfold f0_force_0 f0_force_22 fF
  simp only [s9_r2, s9_r5]
  by_cases h : 100 < a5
  · rw [if_pos h, if_pos h]
  · rw [if_neg h, if_neg h]
theorem fo_m (hc : c < 8) : f5_force_0 (s9 q c a0 a1 a2 a3 a4 a5 a6 a7 a8) (nI c) = some (fF a2 a5) := by
  unfold f5_force_0 f5_force_40 fF
  simp (disch := omega) only [e5_2, e5_5, gd_n, cl_n, s9_r2, s9_r5]
  by_cases h : 100 < a5
  · rw [if_pos h, if_pos h]
  · rw [if_neg h, if_neg h]
theorem cs_c {sl : Int32} : f0_changeSpeed_0 c sl (s9 q c a0 a1 a2 a3 a4 a5 a6 a7 a8) = some (s9 q c a0 a1 a2 (wi (a3 + sl + a1 / 5 - fF a2 a5) 0 40) a4 a5 a6 a7 (if a8 < wi (a3 + sl + a1 / 5 - fF a2 a5) 0 40 then wi (a3 + sl + a1 / 5 - fF a2 a5) 0 40 else a8)) := by
  unfold f0_changeSpeed_0
  rw [fo_c, ob]
  simp (disch := omega) only [s9_r1, s9_r3, cl_wi, f0_changeSpeed_33, f0_changeSpeed_48, s9_r0, s9_r1, s9_r2, s9_r3, s9_r4, s9_r5, s9_r6, s9_r7, s9_r8, s9_u0, s9_u1, s9_u2, s9_u3, s9_u4, s9_u5, s9_u6, s9_u7, s9_u8, s9_uo, s9_o]
theorem ch_c (h2 : sml a2 9) (h5 : sml a5 200) : f0_changeHeat_0 c (s9 q c a0 a1 a2 a3 a4 a5 a6 a7 a8) = some (s9 q c a0 a1 a2 a3 a4 (heatN a2 a3 a5) a6 a7 a8) := by
  have k2 := sml_i h2 (by omega)
  have k5 := sml_i h5 (by omega)
  have z0 : (0 : Int32).toInt = 0 := rfl
  have z5 : (5 : Int32).toInt = 5 := rfl
  have zm : (-5 : Int32).toInt = -5 := rfl
  have z2 : (200 : Int32).toInt = 200 := rfl
  have e1 := i_add (a := a5) (b := -5) (by rw [zm]; omega) (by rw [zm]; omega)
  have e2 := i_add (a := a5) (b := a2) (by omega) (by omega)
  rw [zm] at e1
  have e3 := i_sub (a := a5) (b := 5) (by rw [z5]; omega) (by rw [z5]; omega)
  rw [z5] at e3
  have e4 : a5 - 5 = a5 + -5 := by rw [i_eq, e1, e3]; omega
  unfold f0_changeHeat_0 heatN wi
  simp (disch := omega) only [s9_r3, f0_coolDown_0, f0_coolDown_19, f0_changeHeat_26, f0_changeHeat_33, s9_r5, s9_r2, s9_u5]
  by_cases h : a3 ≤ 0
  · rw [if_pos h, if_pos h]
    by_cases g : a5 ≤ 5
    · rw [if_pos g, ob]
      have g' := i_le.mp g
      rw [z5] at g'
      by_cases g2 : 0 ≤ a5 + -5
      · have g2' := i_le.mp g2
        rw [z0, e1] at g2'
        rw [if_pos g2, if_pos (by rw [i_le, e1, z2]; omega)]
        have hz : a5 + -5 = 0 := by rw [i_eq, e1, z0]; omega
        rw [hz]
      · rw [if_neg g2]
    · rw [if_neg g, ob]
      have g' : ¬ a5.toInt ≤ (5 : Int32).toInt := fun q => g (i_le.mpr q)
      rw [z5] at g'
      rw [if_pos (by rw [i_le, e1, z0]; omega), if_pos (by rw [i_le, e1, z2]; omega), e4]
  · have hz : 0 ≤ a5 + a2 := by rw [i_le, e2, z0]; omega
    rw [if_neg h, if_neg h, if_pos hz]
    by_cases g : a5 + a2 < 200
    · have g2 : a5 + a2 ≤ 200 := by have := i_lt.mp g; rw [i_le]; omega
      rw [if_pos g, if_pos g2]
    · rw [if_neg g]
      have g' : ¬ (a5 + a2).toInt < (200 : Int32).toInt := fun q => g (i_lt.mpr q)
      by_cases g2 : a5 + a2 ≤ 200
      · have g2' := i_le.mp g2
        have hz2 : a5 + a2 = 200 := by rw [i_eq]; omega
        rw [if_pos g2, hz2]
      · rw [if_neg g2]
end
theorem bf_congr {B B' : Nat → Bool} {p p' : Nat → Int32} : ∀ {n : Nat}, (∀ d, d < n → B d = B' d ∧ p d = p' d) → bfN B p n = bfN B' p' n
  | 0, _ => rfl
  | n + 1, h => by
    have ih := bf_congr (n := n) (fun d hd => h d (by omega))
    have hn := h n (by omega)
    rw [bfN, bfN, ih, hn.1]
    cases hm : bfN B' p' n with
    | none => rfl
    | some k =>
      have := bf_lt hm
      simp only [(h k (by omega)).2, hn.2]
theorem isB_congr {w w' : Nat → Int32} {c d : Nat} (h0 : w (90 + 9 * d + 0) = w' (90 + 9 * d + 0)) (h4 : w (90 + 9 * d + 4) = w' (90 + 9 * d + 4)) (hc : w (90 + 9 * c + 4) = w' (90 + 9 * c + 4)) : isB w c d = isB w' c d := by
  unfold isB aheadB
  rw [h0, h4, hc]
theorem nx_congr {w w' : Nat → Int32} {N c : Nat} (hc : c < N) (h : ∀ d, d < N → w (90 + 9 * d + 0) = w' (90 + 9 * d + 0) ∧ w (90 + 9 * d + 4) = w' (90 + 9 * d + 4)) : nxN w N c = nxN w' N c :=
  bf_congr (fun d hd => ⟨isB_congr (h d hd).1 (h d hd).2 (h c hc).2, (h d hd).2⟩)
theorem nx_s9 {q : Nat → Int32} {N c : Nat} {a0 a1 a2 a3 a4 a5 a6 a7 a8 b1 b2 b3 b5 b6 b7 b8 : Int32} (hc : c < N) : nxN (s9 q c a0 a1 a2 a3 a4 a5 a6 a7 a8) N c = nxN (s9 q c a0 b1 b2 b3 a4 b5 b6 b7 b8) N c := by
  refine nx_congr hc (fun d hd => ?_)
  by_cases e : d = c
  · subst e
    rw [s9_r0, s9_r0, s9_r4, s9_r4]
    exact ⟨rfl, rfl⟩
  · rw [s9_d e (by omega), s9_d e (by omega), s9_d e (by omega), s9_d e (by omega)]
    exact ⟨rfl, rfl⟩
theorem ring1 (a g d o f : Int32) : a + (g - d) + o - f = a + g + o - f - d := by
  simp only [Int32.sub_eq_add_neg, Int32.add_assoc]
  ac_rfl
