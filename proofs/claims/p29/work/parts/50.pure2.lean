/-! mules, sums, switches -/
theorem mk_ext {P : Nat → Bool} {N : Nat} : ∀ {M : Nat}, N ≤ M → mkN (fun c => P c && decide (c < N)) M = mkN P N
  | M, h => by
    induction M with
    | zero =>
      obtain rfl : N = 0 := by omega
      rfl
    | succ m ih =>
      by_cases e : N = m + 1
      · subst e
        exact mk_congr (fun c hc => by simp [hc])
      · rw [mk_f (by simp; intro _; omega)]
        exact ih (by omega)
theorem ct_ext {P : Nat → Bool} {N : Nat} : ∀ {M : Nat}, N ≤ M → ctN (fun c => P c && decide (c < N)) M = ctN P N
  | M, h => by
    induction M with
    | zero =>
      obtain rfl : N = 0 := by omega
      rfl
    | succ m ih =>
      by_cases e : N = m + 1
      · subst e
        exact ct_congr (fun c hc => by simp [hc])
      · rw [ct_f (by simp; intro _; omega)]
        exact ih (by omega)
def b8 (b0 b1 b2 b3 b4 b5 b6 b7 : Bool) (c : Nat) : Bool := [b0, b1, b2, b3, b4, b5, b6, b7].getD c false
theorem bc8 : ∀ b0 b1 b2 b3 b4 b5 b6 b7 : Bool, fJ6_bitCount_0 (mkN (b8 b0 b1 b2 b3 b4 b5 b6 b7) 8) = some (nI (ctN (b8 b0 b1 b2 b3 b4 b5 b6 b7) 8)) := by decide
theorem b8_of {P : Nat → Bool} {c : Nat} (hc : c < 8) : P c = b8 (P 0) (P 1) (P 2) (P 3) (P 4) (P 5) (P 6) (P 7) c := by
  obtain rfl | rfl | rfl | rfl | rfl | rfl | rfl | rfl : c = 0 ∨ c = 1 ∨ c = 2 ∨ c = 3 ∨ c = 4 ∨ c = 5 ∨ c = 6 ∨ c = 7 := by omega
  all_goals rfl
theorem bc_s {P : Nat → Bool} {N : Nat} (hN : N ≤ 8) : fJ6_bitCount_0 (mkN P N) = some (nI (ctN P N)) := by
  rw [← mk_ext (P := P) hN, ← ct_ext (P := P) hN, mk_congr (P := fun c => P c && decide (c < N)) (fun c hc => b8_of (P := fun c => P c && decide (c < N)) hc), ct_congr (P := fun c => P c && decide (c < N)) (fun c hc => b8_of (P := fun c => P c && decide (c < N)) hc)]
  exact bc8 _ _ _ _ _ _ _ _
def fmul (w : Nat → Int32) (N : Nat) : Int32 := if 0 < w 170 - nI (ctN (isSt w 4) N) then w 170 - nI (ctN (isSt w 4) N) else 0
theorem fm_a (w : Nat → Int32) : f3_freeMules_0 w = Option.bind (f3_carsInState_0 w 4) (fun t2 => Option.bind (fJ6_bitCount_0 t2) (fun t3 => some (if 0 < w (168 + Int32.toNatClampNeg 2) - t3 then w (168 + Int32.toNatClampNeg 2) - t3 else 0))) := by
  unfold f3_freeMules_0
  exact gds2
theorem fm_s {w : Nat → Int32} {N : Nat} (hN : N ≤ 8) (hw : w 162 = nI N) : f3_freeMules_0 w = some (fmul w N) := by
  have h : w (168 + Int32.toNatClampNeg 2) = w 170 := congrArg (fun k => w (168 + k)) cl2
  rw [fm_a, cis_s hN hw, ob, bc_s hN, ob, h]
  unfold fmul
  exact Eq.refl _
theorem b01_r (x : Int32) (p : Prop) [Decidable p] : x + b01 p = if p then x + 1 else x := by
  by_cases h : p
  · rw [b01_t h, if_pos h]
  · rw [b01_f h, if_neg h]; exact Int32.add_zero x
theorem pu_s {w : Nat → Int32} {N : Nat} (hN : N ≤ 8) (hw : w 162 = nI N) : f5_pulled_0 w = some (nI (ctN (isSt w 4) N)) := by
  unfold f5_pulled_0
  refine lp_e (σ := Int32) (L := fun n a j => f5_pulled_4 w n a j) (N := N) (S := fun j => nI (ctN (isSt w 4) j)) ?_ ?_ (by rw [fu_eq]; omega)
  · intro n j hj
    simp (disch := omega) only [f5_pulled_4, f5_pulled_31, hw, gdm162, cl162, n_le, isIn_o, ob, b01_0, ad_1, if_neg (show ¬ N ≤ j by omega)]
    by_cases h : w (90 + 9 * j + 0) = 4
    · rw [if_neg (fun q => q h), ct_t (decide_eq_true h)]
    · rw [if_pos h, ct_f (decide_eq_false h), Int32.add_zero]
  · intro n
    simp (disch := omega) only [f5_pulled_4, hw, gdm162, cl162, if_pos (Int32.le_refl _)]
theorem not_lt_le {a b : Int32} : ¬ a < b ↔ b ≤ a := by rw [i_lt, i_le]; omega
theorem not_le_lt {a b : Int32} : ¬ a ≤ b ↔ b < a := by rw [i_lt, i_le]; omega
theorem mu_s {w : Nat → Int32} {N : Nat} (hN : N ≤ 8) (hw : w 162 = nI N) : f5_mules_0 w = some (fmul w N) := by
  unfold f5_mules_0
  simp (disch := omega) only [gdm170, cl170, pu_s hN hw, ob, f5_mules_23]
  unfold fmul
  by_cases h : 0 < w 170 - nI (ctN (isSt w 4) N)
  · rw [if_pos h, if_neg (fun q => not_le_lt.mpr h q)]
  · rw [if_neg h, if_pos (not_lt_le.mp h)]
theorem oc_s {w : Nat → Int32} {N : Nat} (hN : N ≤ 8) (hw : w 162 = nI N) : f3_oreInCars_0 w = some (smN (fun c => w (90 + 9 * c + 1)) N) := by
  unfold f3_oreInCars_0
  refine lp_e (σ := Int32) (L := fun n a j => f3_oreInCars_4 w n a j) (N := N) (S := fun j => smN (fun c => w (90 + 9 * c + 1)) j) ?_ ?_ (by rw [fu_eq]; omega)
  · intro n j hj
    simp (disch := omega) only [f3_oreInCars_4, hw, n_le, gd_n, cl_n, ad_1, if_neg (show ¬ N ≤ j by omega)]
    rfl
  · intro n
    simp (disch := omega) only [f3_oreInCars_4, hw, if_pos (Int32.le_refl _)]
theorem ic_s {w : Nat → Int32} {N : Nat} (hN : N ≤ 8) (hw : w 162 = nI N) : f5_inCars_0 w = some (smN (fun c => w (90 + 9 * c + 1)) N) := by
  unfold f5_inCars_0
  refine lp_e (σ := Int32) (L := fun n a j => f5_inCars_4 w n a j) (N := N) (S := fun j => smN (fun c => w (90 + 9 * c + 1)) j) ?_ ?_ (by rw [fu_eq]; omega)
  · intro n j hj
    simp (disch := omega) only [f5_inCars_4, hw, gdm162, cl162, e5_1, n_le, gd_n, cl_n, ad_1, if_neg (show ¬ N ≤ j by omega)]
    rfl
  · intro n
    simp (disch := omega) only [f5_inCars_4, hw, gdm162, cl162, if_pos (Int32.le_refl _)]
theorem bu_s {w : Nat → Int32} {N : Nat} (hN : N ≤ 8) (hw : w 162 = nI N) : f3_bumps_0 w = some (smN (fun c => w (90 + 9 * c + 7)) N) := by
  unfold f3_bumps_0
  refine lp_e (σ := Int32) (L := fun n a j => f3_bumps_4 w n a j) (N := N) (S := fun j => smN (fun c => w (90 + 9 * c + 7)) j) ?_ ?_ (by rw [fu_eq]; omega)
  · intro n j hj
    simp (disch := omega) only [f3_bumps_4, hw, n_le, gd_n, cl_n, ad_1, if_neg (show ¬ N ≤ j by omega)]
    rfl
  · intro n
    simp (disch := omega) only [f3_bumps_4, hw, if_pos (Int32.le_refl _)]
theorem ab_s {w : Nat → Int32} {N : Nat} (hN : N ≤ 8) (hw : w 162 = nI N) : f5_allBumps_0 w = some (smN (fun c => w (90 + 9 * c + 7)) N) := by
  unfold f5_allBumps_0
  refine lp_e (σ := Int32) (L := fun n a j => f5_allBumps_4 w n a j) (N := N) (S := fun j => smN (fun c => w (90 + 9 * c + 7)) j) ?_ ?_ (by rw [fu_eq]; omega)
  · intro n j hj
    simp (disch := omega) only [f5_allBumps_4, hw, gdm162, cl162, e5_7, n_le, gd_n, cl_n, ad_1, if_neg (show ¬ N ≤ j by omega)]
    rfl
  · intro n
    simp (disch := omega) only [f5_allBumps_4, hw, gdm162, cl162, if_pos (Int32.le_refl _)]
def isSw (w : Nat → Int32) (i : Nat) : Bool := decide (0 < w (30 + i))
theorem sc_s {w : Nat → Int32} : f3_switchCount_0 w = some (nI (ctN (isSw w) 30)) := by
  unfold f3_switchCount_0
  refine lp_e (σ := Int32) (L := fun n a j => f3_switchCount_4 w n a j) (N := 30) (S := fun j => nI (ctN (isSw w) j)) ?_ ?_ (by rw [fu_eq]; omega)
  · intro n j hj
    have h30 : ¬ (30 : Int32) ≤ nI j := by rw [show (30 : Int32) = nI 30 from rfl, n_le (by omega) (by omega)]; omega
    simp (disch := omega) only [f3_switchCount_4, f3_switchCount_22, gd_n, cl_n, ad_1, if_neg h30]
    by_cases h : 0 < w (30 + j)
    · rw [if_neg (not_le_lt.mpr h), ct_t (decide_eq_true h)]
    · rw [if_pos (not_lt_le.mp h), ct_f (decide_eq_false h)]
  · intro n
    simp only [f3_switchCount_4, if_pos (show (30 : Int32) ≤ nI 30 by decide)]
theorem sw_s {w : Nat → Int32} : f5_switches_0 w = some (nI (ctN (isSw w) 30)) := by
  unfold f5_switches_0
  refine lp_e (σ := Int32) (L := fun n a j => f5_switches_4 w n a j) (N := 30) (S := fun j => nI (ctN (isSw w) j)) ?_ ?_ (by rw [fu_eq]; omega)
  · intro n j hj
    have h30 : ¬ (30 : Int32) ≤ nI j := by rw [show (30 : Int32) = nI 30 from rfl, n_le (by omega) (by omega)]; omega
    simp (disch := omega) only [f5_switches_4, f5_switches_28, ar_30, gd_n, cl_n, ad_1, if_neg h30]
    by_cases h : 0 < w (30 + j)
    · rw [if_neg (not_le_lt.mpr h), ct_t (decide_eq_true h)]
    · rw [if_pos (not_lt_le.mp h), ct_f (decide_eq_false h), Int32.add_zero]
  · intro n
    simp only [f5_switches_4, if_pos (show (30 : Int32) ≤ nI 30 by decide)]
/-! refusals -/
theorem car_k {c : Int32} {N : Nat} (hN : N ≤ 8) (h : 0 ≤ c ∧ c < nI N) : ∃ k, k < N ∧ c = nI k := by
  have h0 := i_le.mp h.1
  have h1 := i_lt.mp h.2
  rw [nI_toInt (by omega)] at h1
  obtain ⟨k, hk, rfl⟩ := sml_of (M := 8) (x := c) h0 (by omega) (by omega)
  exact ⟨k, by rw [nI_toInt (by omega)] at h1; omega, rfl⟩
theorem k_car {k N : Nat} (hN : N ≤ 8) (h : k < N) : 0 ≤ nI k ∧ nI k < nI N := ⟨(n_le (a := 0) (by omega) (by omega)).mpr (by omega), (n_lt (by omega) (by omega)).mpr h⟩
theorem dv_n {a b : Nat} (ha : a < 2 ^ 31) (hb : b < 2 ^ 31) (h0 : 0 < b) : nI a / nI b = nI (a / b) := by
  apply Int32.toInt_inj.mp
  have hq : a / b ≤ a := Nat.div_le_self a b
  rw [Int32.toInt_div, nI_toInt ha, nI_toInt hb, nI_toInt (by omega)]
  rw [show Int.tdiv (a : Int) (b : Int) = ((a / b : Nat) : Int) from rfl]
  generalize a / b = q at *
  exact Int.bmod_eq_of_le (by omega) (by omega)
theorem dv_0 {x : Int32} {M : Nat} (h : sml x M) (hM : M < 2 ^ 31) : x / 10 = 0 ↔ x < 10 := by
  obtain ⟨k, hk, rfl⟩ := h
  rw [show (10 : Int32) = nI 10 from rfl, dv_n (by omega) (by omega) (by omega), show (0 : Int32) = nI 0 from rfl, n_eq (by omega) (by omega), n_lt (by omega) (by omega)]
  omega
def bar (w : Nat → Int32) (N : Nat) : Bool := decide (mkN (inSec w 1 0) N ≠ 0)
theorem b01_or (p : Prop) [Decidable p] : b01 p = 0 ∨ b01 p = 1 := by
  by_cases h : p
  · exact Or.inr (b01_t h)
  · exact Or.inl (b01_f h)
theorem nr_s {w : Nat → Int32} {N k : Nat} (hI : ∀ c, c < N → sml (w (90 + 9 * c + 4)) 300) (hN : N ≤ 8) (hw : w 162 = nI N) (hk : k < N) :
    f5_noRelease_0 w (nI k) = some (if w (90 + 9 * k + 0) = 0 then (if bar w N then 2 else 0) else 1) := by
  unfold f5_noRelease_0
  refine lp_e (σ := Int32) (L := fun n a j => f5_noRelease_4 w n (nI k) a j) (N := N) (S := fun j => b01 (mkN (inSec w 1 0) j ≠ 0)) ?_ ?_ (by rw [fu_eq]; omega)
  · intro n j hj
    simp (disch := omega) only [f5_noRelease_4, f5_noRelease_44, f5_noRelease_48, f5_noRelease_49, hw, gdm162, cl162, n_le, gd_n, cl_n, ad_1, isIn_o, ob, b01_0, e5_4, if_neg (show ¬ N ≤ j by omega)]
    by_cases hm : mkN (inSec w 1 0) j = 0
    · rw [if_pos (fun q => q hm)]
      by_cases h : w (90 + 9 * j + 0) = 1
      · rw [if_neg (fun q => q h)]
        by_cases h2 : w (90 + 9 * j + 4) < 10
        · rw [if_neg (fun q => not_lt_le.mpr q h2), b01_t (by
            rw [mk_t (decide_eq_true ⟨h, (dv_0 (hI j hj) (by omega)).mpr h2⟩), hm]
            intro q
            exact bit_ne ⟨j, by omega⟩ (by simpa using q))]
        · rw [if_pos (not_lt_le.mp h2), b01_f (by
            rw [mk_f (decide_eq_false (fun q => h2 ((dv_0 (hI j hj) (by omega)).mp q.2))), hm]
            exact fun q => q rfl)]
      · rw [if_pos h, b01_f (by
            rw [mk_f (decide_eq_false (fun q => h q.1)), hm]
            exact fun q => q rfl)]
    · rw [if_neg (fun q => q hm), b01_t (by
        intro q
        exact hm ((mk_0 (by omega)).mpr (fun c hc => (mk_0 (by omega)).mp q c (by omega))))]
  · intro n
    simp (disch := omega) only [f5_noRelease_4, f5_noRelease_78, hw, gdm162, cl162, isIn_o, ob, b01_0, if_pos (Int32.le_refl _)]
    unfold bar
    by_cases h : w (90 + 9 * k + 0) = 0
    · rw [if_neg (fun q => q h), if_pos h]
      by_cases hm : mkN (inSec w 1 0) N = 0
      · rw [if_pos (fun q => q hm), if_neg (by simp [hm])]
      · rw [if_neg (fun q => q hm), if_pos (by simp [hm])]
    · rw [if_pos h, if_neg h]
theorem rr_s {w : Nat → Int32} {N k : Nat} (hN : N ≤ 8) (hw : w 162 = nI N) (hk : k < N) :
    f3_releaseRefusal_0 w (nI k) = some (if w (90 + 9 * k + 0) = 0 then (if bar w N then 2 else 0) else 1) := by
  unfold f3_releaseRefusal_0
  simp (disch := omega) only [f3_releaseRefusal_28, gd_n, cl_n, cic_s hN hw, ob]
  unfold bar
  by_cases h : w (90 + 9 * k + 0) = 0
  · rw [if_pos h, if_pos h]
    by_cases hm : mkN (inSec w 1 0) N = 0
    · rw [if_pos hm, if_neg (by simp [hm])]
    · rw [if_neg hm, if_pos (by simp [hm])]
  · rw [if_neg h, if_neg h]
theorem np_s {w : Nat → Int32} {N k : Nat} (hN : N ≤ 8) (hw : w 162 = nI N) (hk : k < N) :
    f5_noPull_0 w (nI k) = some (if w (90 + 9 * k + 0) = 2 ∨ w (90 + 9 * k + 0) = 3 then (if fmul w N = 0 then 2 else 0) else 1) := by
  unfold f5_noPull_0
  simp (disch := omega) only [f5_noPull_34, f5_noPull_22, gd_n, cl_n, isIn_o, mu_s hN hw, ob, b01_0]
  by_cases h : w (90 + 9 * k + 0) = 2
  · rw [if_neg (fun q => q h), if_pos (Or.inl h)]
    by_cases h2 : fmul w N = 0
    · rw [if_pos h2, if_pos h2]
    · rw [if_neg h2, if_neg h2]
  · rw [if_pos h]
    by_cases h3 : w (90 + 9 * k + 0) = 3
    · rw [if_neg (fun q => q h3), if_pos (Or.inr h3)]
      by_cases h2 : fmul w N = 0
      · rw [if_pos h2, if_pos h2]
      · rw [if_neg h2, if_neg h2]
    · rw [if_pos h3, if_neg (fun q => q.elim h h3)]
theorem pr_s {w : Nat → Int32} {N k : Nat} (hN : N ≤ 8) (hw : w 162 = nI N) (hk : k < N) :
    f3_pullRefusal_0 w (nI k) = some (if w (90 + 9 * k + 0) = 2 ∨ w (90 + 9 * k + 0) = 3 then (if fmul w N = 0 then 2 else 0) else 1) := by
  unfold f3_pullRefusal_0
  simp (disch := omega) only [f3_pullRefusal_34, f3_pullRefusal_22, gd_n, cl_n, fm_s hN hw, ob]
  by_cases h : w (90 + 9 * k + 0) = 2
  · rw [if_pos h, if_pos (Or.inl h)]
    by_cases h2 : fmul w N = 0
    · rw [if_pos h2, if_pos h2]
    · rw [if_neg h2, if_neg h2]
  · rw [if_neg h]
    by_cases h3 : w (90 + 9 * k + 0) = 3
    · rw [if_pos h3, if_pos (Or.inr h3)]
      by_cases h2 : fmul w N = 0
      · rw [if_pos h2, if_pos h2]
      · rw [if_neg h2, if_neg h2]
    · rw [if_neg h3, if_neg (fun q => q.elim h h3)]
