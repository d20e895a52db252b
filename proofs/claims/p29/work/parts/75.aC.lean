/-! p29: calls, refused and done -/
section Bad
variable {mu : Nat → Nat → Int32} {S : Stt} {N : Nat} {x y : Int32}
theorem n31 : ¬ (3 : Int32) = 1 := by decide
theorem n32 : ¬ (3 : Int32) = 2 := by decide
theorem n21 : ¬ (2 : Int32) = 1 := by decide
theorem bg_i (hx : ¬ (0 ≤ x ∧ x ≤ 29)) : f6_grade_0 x y mu = some (-3, mu) := by
  unfold f6_grade_0 f4_grade_0 f4_grade_14 f4_grade_15
  rw [rgq 0 29 30 _ _ rfl, if_neg hx, if_pos rfl, ob, if_neg n10, if_pos rfl]
theorem bg_a (hx : 0 ≤ x ∧ x ≤ 29) (hy : ¬ (0 ≤ y ∧ y ≤ 9)) : f6_grade_0 x y mu = some (-2, mu) := by
  unfold f6_grade_0 f4_grade_0 f4_grade_14 f4_grade_15
  rw [rgq 0 29 30 _ _ rfl, if_pos hx, if_neg n10, iw_s, ob, b01_f hy, if_pos rfl, ob, if_neg n20, if_neg n21, if_pos rfl]
theorem bs_i (hx : ¬ (1 ≤ x ∧ x ≤ 29)) : f6_spring_0 x y mu = some (-3, mu) := by
  unfold f6_spring_0 f4_spring_0 f4_spring_15 f4_spring_16
  rw [rgq 1 29 30 _ _ rfl, if_neg hx, if_pos rfl, ob, if_neg n10, if_pos rfl]
theorem bs_a (hx : 1 ≤ x ∧ x ≤ 29) (hy : ¬ (0 ≤ y ∧ y ≤ 40)) : f6_spring_0 x y mu = some (-2, mu) := by
  unfold f6_spring_0 f4_spring_0 f4_spring_15 f4_spring_16
  rw [rgq 1 29 30 _ _ rfl, if_pos hx, if_neg n10, iw_s, ob, b01_f hy, if_pos rfl, ob, if_neg n20, if_neg n21, if_pos rfl]
theorem bc_8 (h : AS mu S) (hw : S.1 162 = nI 8) : f6_car_0 mu = some (-2, mu) := by
  unfold f6_car_0 f4_car_0 f4_car_17
  rw [h.1, hw, if_pos (show (8 : Int32) ≤ nI 8 by decide), if_pos rfl, ob, if_neg n30, if_pos rfl]
theorem bl_i (h : AS mu S) (hN : N ≤ 8) (hw : S.1 162 = nI N) (hx : ¬ (0 ≤ x ∧ x < nI N)) : f6_load_0 x y mu = some (-3, mu) := by
  unfold f6_load_0 f4_load_0
  rw [h.1, hasCar_s hN hw, ob, b01_f hx, if_pos rfl, ob, if_neg n10, if_pos rfl]
theorem bl_a (h : AS mu S) (hN : N ≤ 8) (hw : S.1 162 = nI N) (hx : 0 ≤ x ∧ x < nI N) (hy : ¬ (1 ≤ y ∧ y ≤ 20)) : f6_load_0 x y mu = some (-2, mu) := by
  unfold f6_load_0 f4_load_0
  rw [h.1, hasCar_s hN hw, ob, b01_t hx, if_neg n10, iw_s, ob, b01_f hy, if_pos rfl, ob, if_neg n20, if_neg n21, if_pos rfl]
theorem bl_s4 {k : Nat} (h : AS mu S) (hN : N ≤ 8) (hw : S.1 162 = nI N) (hk : k < N) (hy : 1 ≤ y ∧ y ≤ 20) (hc : ¬ (S.1 (90 + 9 * k + 0) = 0 ∧ ¬ 20 < S.1 (90 + 9 * k + 1) + y)) : f6_load_0 (nI k) y mu = some (-4, mu) := by
  unfold f6_load_0 f4_load_0
  rw [h.1, hasC_s hN hw hk, ob, if_neg n10, iw_s, ob, b01_t hy, if_neg n10, can_s hN hw hk, ob, b01_f hc, if_pos rfl, ob, if_neg n30, if_neg n31, if_neg n32, if_pos rfl]
theorem br_i (h : AS mu S) (hN : N ≤ 8) (hw : S.1 162 = nI N) (hx : ¬ (0 ≤ x ∧ x < nI N)) : f6_release_0 x y mu = some (-3, mu) := by
  unfold f6_release_0 f4_release_0
  rw [h.1, hasCar_s hN hw, ob, b01_f hx, if_pos rfl, ob, if_neg n10, if_pos rfl]
theorem br_a (h : AS mu S) (hN : N ≤ 8) (hw : S.1 162 = nI N) (hx : 0 ≤ x ∧ x < nI N) (hy : ¬ (0 ≤ y ∧ y ≤ 9)) : f6_release_0 x y mu = some (-2, mu) := by
  unfold f6_release_0 f4_release_0
  rw [h.1, hasCar_s hN hw, ob, b01_t hx, if_neg n10, iw_s, ob, b01_f hy, if_pos rfl, ob, if_neg n20, if_neg n21, if_pos rfl]
theorem bb_i (h : AS mu S) (hN : N ≤ 8) (hw : S.1 162 = nI N) (hx : ¬ (0 ≤ x ∧ x < nI N)) : f6_brake_0 x y mu = some (-3, mu) := by
  unfold f6_brake_0 f4_brake_0
  rw [h.1, hasCar_s hN hw, ob, b01_f hx, if_pos rfl, ob, if_neg n10, if_pos rfl]
theorem bb_a (h : AS mu S) (hN : N ≤ 8) (hw : S.1 162 = nI N) (hx : 0 ≤ x ∧ x < nI N) (hy : ¬ (0 ≤ y ∧ y ≤ 9)) : f6_brake_0 x y mu = some (-2, mu) := by
  unfold f6_brake_0 f4_brake_0
  rw [h.1, hasCar_s hN hw, ob, b01_t hx, if_neg n10, iw_s, ob, b01_f hy, if_pos rfl, ob, if_neg n20, if_neg n21, if_pos rfl]
theorem bb_s4 {k : Nat} (h : AS mu S) (hN : N ≤ 8) (hw : S.1 162 = nI N) (hk : k < N) (hy : 0 ≤ y ∧ y ≤ 9) (hr : ¬ S.1 (90 + 9 * k + 0) = 1) : f6_brake_0 (nI k) y mu = some (-4, mu) := by
  unfold f6_brake_0 f4_brake_0
  rw [h.1, hasC_s hN hw hk, ob, if_neg n10, iw_s, ob, b01_t hy, if_neg n10, ro_s hN hw hk, ob, b01_f hr, if_pos rfl, ob, if_neg n30, if_neg n31, if_neg n32, if_pos rfl]
theorem bp_i (h : AS mu S) (hN : N ≤ 8) (hw : S.1 162 = nI N) (hx : ¬ (0 ≤ x ∧ x < nI N)) : f6_pull_0 x mu = some (-3, mu) := by
  unfold f6_pull_0 f4_pull_0
  rw [h.1, hasCar_s hN hw, ob, b01_f hx, if_pos rfl, ob, if_neg n10, if_pos rfl]
theorem bt_i (hx : ¬ (0 ≤ x ∧ x ≤ 2)) : f6_set_0 x y mu = some (-3, mu) := by
  unfold f6_set_0 f4_set_0 f4_set_13 f4_set_14
  rw [rgq 0 2 3 _ _ rfl, if_neg hx, if_pos rfl, ob, if_neg n10, if_pos rfl]
def stLo (i : Nat) : Int32 := if i = 1 then 1 else 0
def stHi (i : Nat) : Int32 := if i = 0 then 5 else if i = 1 then 20 else 4
theorem st_lh {i : Nat} (hi : i ≤ 2) : f4_leastOfSetting_0 (nI i) = some (stLo i) ∧ f4_greatestOfSetting_0 (nI i) = some (stHi i) ∧ (∀ y, stLo i ≤ y ∧ y ≤ stHi i → i = 0 ∧ sml y 5 ∨ i = 1 ∧ sml y 20 ∨ i = 2 ∧ sml y 4) := by
  obtain rfl | rfl | rfl : i = 0 ∨ i = 1 ∨ i = 2 := by omega
  · refine ⟨rfl, rfl, fun y hy => Or.inl ⟨rfl, ?_⟩⟩
    obtain ⟨k, hk, rfl⟩ := rng_k 5 (by omega) hy
    exact sml_n hk
  · refine ⟨rfl, rfl, fun y hy => Or.inr (Or.inl ⟨rfl, ?_⟩)⟩
    have h1 : (1 : Int32) ≤ y := hy.1
    have h0 : (0 : Int32) ≤ y := by have := i_le.mp h1; rw [i_le]; rw [show (1 : Int32).toInt = 1 from rfl] at this; rw [show (0 : Int32).toInt = 0 from rfl]; omega
    obtain ⟨k, hk, rfl⟩ := rng_k 20 (by omega) ⟨h0, hy.2⟩
    exact sml_n hk
  · refine ⟨rfl, rfl, fun y hy => Or.inr (Or.inr ⟨rfl, ?_⟩)⟩
    obtain ⟨k, hk, rfl⟩ := rng_k 4 (by omega) hy
    exact sml_n hk
theorem ni_r {i M : Nat} (h : i ≤ M) (hM : M < 2 ^ 31) : 0 ≤ nI i ∧ nI i ≤ nI M := ⟨(n_le (a := 0) (by omega) (by omega)).mpr (by omega), (n_le (by omega) hM).mpr h⟩
theorem bt_a {i : Nat} (hi : i ≤ 2) (hy : ¬ (stLo i ≤ y ∧ y ≤ stHi i)) : f6_set_0 (nI i) y mu = some (-2, mu) := by
  obtain ⟨l1, l2, l3⟩ := st_lh hi
  unfold f6_set_0 f4_set_0 f4_set_13 f4_set_14
  rw [rgq 0 2 3 _ _ rfl, if_pos (show (0 : Int32) ≤ nI i ∧ nI i ≤ 2 from ni_r (M := 2) hi (by omega)), if_neg n10, l1, ob, l2, ob, iw_s, ob, b01_f hy, if_pos rfl, ob, if_neg n20, if_neg n21, if_pos rfl]
theorem bu_a (hx : ¬ (1 ≤ x ∧ x ≤ 60)) : f6_run_0 x mu = some (-2, mu) := by
  unfold f6_run_0 f4_run_0
  rw [iw_s, ob, b01_f hx, if_pos rfl, ob, if_neg n20, if_pos rfl]
theorem ba_a (hx : ¬ (33 ≤ x ∧ x ≤ 126)) : f6_append_0 x mu = some (-2, mu) := by
  unfold f6_append_0 f4_append_0
  rw [iw_s, ob, b01_f hx, if_pos rfl, ob, if_neg n20, if_pos rfl]
theorem bk_a (hx : ¬ (0 ≤ x ∧ x ≤ 1)) : f6_keep_0 x mu = some (-2, mu) := by
  unfold f6_keep_0 f4_keep_0 f4_keep_13 f4_keep_14
  rw [rgq 0 1 2 _ _ rfl, if_neg hx, if_pos rfl, ob, if_neg n20, if_pos rfl]
theorem bo_a (hx : ¬ (0 ≤ x ∧ x ≤ 1)) : f6_goBack_0 x mu = some (-2, mu) := by
  unfold f6_goBack_0 f4_goBack_0 f4_goBack_13 f4_goBack_14
  rw [rgq 0 1 2 _ _ rfl, if_neg hx, if_pos rfl, ob, if_neg n20, if_pos rfl]
theorem bo_s {t : Nat} (h : AS mu S) (ht : t < 2) (hk : S.2.2.2 t = none) : f6_goBack_0 (nI t) mu = some (-3, mu) := by
  have e : mu 11 t = 0 := by rw [(h.2.2.2.2.2.1 t ht).1, hk]; rfl
  unfold f6_goBack_0 f4_goBack_0 f4_goBack_13 f4_goBack_14
  rw [rgq 0 1 2 _ _ rfl, if_pos (show (0 : Int32) ≤ nI t ∧ nI t ≤ 1 from ni_r (M := 1) (show t ≤ 1 by omega) (by omega)), if_neg n10, gd_n (by omega) (by omega), cl_n (by omega), e, if_pos rfl, ob, if_neg n30, if_neg n32, if_pos rfl]
theorem bd_s (h : AS mu S) (h0 : S.2.2.1 = 0) : f6_undo_0 mu = some (-2, mu) := by
  unfold f6_undo_0 f4_undo_0 f4_undo_15
  rw [h.2.2.2.2.1, h0, if_pos (show nI 0 ≤ 0 by decide), if_pos rfl, ob, if_neg n30, if_pos rfl]
theorem bi_1 {z : Int32} (hx : ¬ (0 ≤ x ∧ x ≤ 20)) : f6_ifAlone_0 x y z mu = some (-2, mu) := by
  unfold f6_ifAlone_0 f4_ifAlone_0
  rw [iw_s, ob, b01_f hx, if_pos rfl, ob, if_neg n20, if_pos rfl]
theorem bi_2 {z : Int32} (hx : 0 ≤ x ∧ x ≤ 20) (hy : ¬ (0 ≤ y ∧ y ≤ 9)) : f6_ifAlone_0 x y z mu = some (-2, mu) := by
  unfold f6_ifAlone_0 f4_ifAlone_0
  rw [iw_s, ob, b01_t hx, if_neg n10, iw_s, ob, b01_f hy, if_pos rfl, ob, if_neg n20, if_pos rfl]
theorem be_a (hx : ¬ (0 ≤ x ∧ x ≤ 20)) : f6_leastBrake_0 x mu = some (-2, mu) := by
  unfold f6_leastBrake_0 f4_leastBrake_0
  rw [iw_s, ob, b01_f hx, if_pos rfl, ob, if_neg n20, if_pos rfl]
theorem bf_1 (hx : ¬ (1 ≤ x ∧ x ≤ 200)) : f6_ifRun_0 x y mu = some (-2, mu) := by
  unfold f6_ifRun_0 f4_ifRun_0
  rw [iw_s, ob, b01_f hx, if_pos rfl, ob, if_neg n20, if_pos rfl]
theorem bf_2 (hx : 1 ≤ x ∧ x ≤ 200) (hy : ¬ (0 ≤ y ∧ y ≤ 4)) : f6_ifRun_0 x y mu = some (-2, mu) := by
  unfold f6_ifRun_0 f4_ifRun_0
  rw [iw_s, ob, b01_t hx, if_neg n10, iw_s, ob, b01_f hy, if_pos rfl, ob, if_neg n20, if_pos rfl]
end Bad
/-- a call has one answer and one effect, whatever the buffer and the trial state hold; the effect keeps J -/
def GO (f : (Nat → Nat → Int32) → Option (Int32 × (Nat → Nat → Int32))) (B : Int) (S : Stt) : Prop := ∃ r S', JS B S' ∧ ∀ mu, AS mu S → ∃ mu', f mu = some (r, mu') ∧ AS mu' S'
theorem go_bad {f : (Nat → Nat → Int32) → Option (Int32 × (Nat → Nat → Int32))} {B B' : Int} {S : Stt} {r : Int32} (hJ : JS B S) (hB : B ≤ B') (h : ∀ mu, AS mu S → f mu = some (r, mu)) : GO f B' S := ⟨r, S, js_mono hJ hB, fun mu hA => ⟨mu, h mu hA, hA⟩⟩
/-- the calls that save the state and then change it -/
theorem go_ps {f : (Nat → Nat → Int32) → Option (Int32 × (Nat → Nat → Int32))} {B B' : Int} {S : Stt} {r : Int32} {w' : Vc} (hJ : JS B S) (hB : B ≤ B') (hw : JW B' w') (h : ∀ mu mu', AS mu S → f1_push_0 mu = some mu' → mu' 0 = S.1 → f mu = some (r, s1 mu' 0 w')) : GO f B' S :=
  ⟨r, setS (pushS S) w', js_set (js_push hJ) hB hw, fun mu hA => by
    obtain ⟨mu', g1, g2, g3, g4⟩ := as_push hA
    exact ⟨_, h mu mu' hA g1 g3, as_s g2 hw.choose_spec.1⟩⟩
theorem g_grade {B : Int} {S : Stt} (x y : Int32) (hJ : JS B S) : GO (f6_grade_0 x y) B S := by
  obtain ⟨N, hN⟩ := hJ.1
  by_cases hx : 0 ≤ x ∧ x ≤ 29
  · by_cases hy : 0 ≤ y ∧ y ≤ 9
    · obtain ⟨i, hi, rfl⟩ := rng_k 29 (by omega) hx
      refine go_ps (r := S.1 i) (w' := upd S.1 i y) hJ (Int.le_refl _) ⟨N, jn_o hN (inv_grade hN.1 (by omega) (sml_9 hy)) (fun j h1 h2 => upd_n (by omega)) (upd_n (by omega)) (upd_n (by omega)) (upd_n (by omega)) (by rw [upd_n (by omega)]; exact hN.2.2.2.2.2.2.2.2.1)⟩ (fun mu mu' hA g1 g3 => ?_)
      unfold f6_grade_0 f4_grade_0 f4_grade_14 f4_grade_15
      rw [rgq 0 29 30 _ _ rfl, if_pos hx, if_neg n10, iw_s, ob, b01_t hy, if_neg n10, g1, ob]
      simp (disch := omega) only [gd_n, cl_n, g3, ob, if_true]
    · exact go_bad hJ (Int.le_refl _) (fun mu _ => bg_a hx hy)
  · exact go_bad hJ (Int.le_refl _) (fun mu _ => bg_i hx)
theorem g_set {B : Int} {S : Stt} (x y : Int32) (hJ : JS B S) : GO (f6_set_0 x y) B S := by
  obtain ⟨N, hN⟩ := hJ.1
  by_cases hx : 0 ≤ x ∧ x ≤ 2
  · obtain ⟨i, hi, rfl⟩ := rng_k 2 (by omega) hx
    obtain ⟨l1, l2, l3⟩ := st_lh hi
    by_cases hy : stLo i ≤ y ∧ y ≤ stHi i
    · refine go_ps (r := S.1 (168 + i)) (w' := upd S.1 (168 + i) y) hJ (Int.le_refl _) ⟨N, jn_o hN (inv_set hN.1 (l3 y hy)) (fun j h1 h2 => upd_n (by omega)) (upd_n (by omega)) (upd_n (by omega)) (upd_n (by omega)) (by rw [upd_n (by omega)]; exact hN.2.2.2.2.2.2.2.2.1)⟩ (fun mu mu' hA g1 g3 => ?_)
      unfold f6_set_0 f4_set_0 f4_set_13 f4_set_14
      rw [rgq 0 2 3 _ _ rfl, if_pos hx, if_neg n10, l1, ob, l2, ob, iw_s, ob, b01_t hy, if_neg n10, g1, ob]
      simp (disch := omega) only [gd_n, cl_n, g3, ob, if_true]
    · exact go_bad hJ (Int.le_refl _) (fun mu _ => bt_a hi hy)
  · exact go_bad hJ (Int.le_refl _) (fun mu _ => bt_i hx)
theorem g_spring {B : Int} {S : Stt} (x y : Int32) (hJ : JS B S) : GO (f6_spring_0 x y) B S := by
  obtain ⟨N, hN⟩ := hJ.1
  have hI := hN.1
  by_cases hx : 1 ≤ x ∧ x ≤ 29
  · by_cases hy : 0 ≤ y ∧ y ≤ 40
    · have hx1 := hx
      have hx0 : (0 : Int32) ≤ x := by have := i_le.mp hx.1; rw [i_le]; rw [show (1 : Int32).toInt = 1 from rfl] at this; rw [show (0 : Int32).toInt = 0 from rfl]; omega
      obtain ⟨i, hi, rfl⟩ := rng_k 29 (by omega) ⟨hx0, hx.2⟩
      by_cases hc : y = 0 ∨ ¬ S.1 (30 + i) = 0 ∨ ctN (isSw S.1) 30 < 4
      · refine go_ps (r := S.1 (30 + i)) (w' := upd S.1 (30 + i) y) hJ (Int.le_refl _) ⟨N, jn_o hN (inv_limit hI (by omega) (sml_40 hy) (ct_sw hI (by omega) hc)) (fun j h1 h2 => upd_n (by omega)) (upd_n (by omega)) (upd_n (by omega)) (upd_n (by omega)) (by rw [upd_n (by omega)]; exact hN.2.2.2.2.2.2.2.2.1)⟩ (fun mu mu' hA g1 g3 => ?_)
        have go : f4_spring_58 (nI i) y (S.1 (30 + i)) mu = some (0, S.1 (30 + i), s1 mu' 0 (upd S.1 (30 + i) y)) := by
          unfold f4_spring_58 f4_spring_63
          rw [if_neg n10, g1, ob]
          simp (disch := omega) only [gd_n, cl_n, g3]
        unfold f6_spring_0 f4_spring_0 f4_spring_15 f4_spring_16
        rw [rgq 1 29 30 _ _ rfl, if_pos hx1, if_neg n10, iw_s, ob, b01_t hy, if_neg n10]
        simp (disch := omega) only [gd_n, cl_n, hA.1, sc_s, ob]
        by_cases hy0 : y = 0
        · rw [if_pos hy0, go, ob, if_pos rfl]
        · rw [if_neg hy0]
          by_cases hl : S.1 (30 + i) = 0
          · have h4 : ctN (isSw S.1) 30 < 4 := by rcases hc with h | h | h; exact absurd h hy0; exact absurd hl h; exact h
            rw [if_pos hl, if_neg (by rw [show (4 : Int32) = nI 4 from rfl, n_le (by omega) (by omega)]; omega), go, ob, if_pos rfl]
          · rw [if_neg hl, go, ob, if_pos rfl]
      · refine go_bad (r := -4) hJ (Int.le_refl _) (fun mu hA => ?_)
        have h4 : ctN (isSw S.1) 30 ≤ 4 := hI.2.2.2.2.2.1
        have hy0 : ¬ y = 0 := fun q => hc (Or.inl q)
        have hl : S.1 (30 + i) = 0 := Classical.not_not.mp (fun q => hc (Or.inr (Or.inl q)))
        have h5 : ctN (isSw S.1) 30 = 4 := by have : ¬ ctN (isSw S.1) 30 < 4 := fun q => hc (Or.inr (Or.inr q)); omega
        unfold f6_spring_0 f4_spring_0 f4_spring_15 f4_spring_16
        rw [rgq 1 29 30 _ _ rfl, if_pos hx1, if_neg n10, iw_s, ob, b01_t hy, if_neg n10]
        simp (disch := omega) only [gd_n, cl_n, hA.1, sc_s, ob, if_neg hy0, if_pos hl, h5]
        rw [if_pos (show (4 : Int32) ≤ nI 4 by decide)]
        unfold f4_spring_63
        rw [if_pos rfl, ob, if_neg n30, if_neg n31, if_neg n32, if_pos rfl]
    · exact go_bad hJ (Int.le_refl _) (fun mu _ => bs_a hx hy)
  · exact go_bad hJ (Int.le_refl _) (fun mu _ => bs_i hx)
theorem g_car {B : Int} {S : Stt} (hJ : JS B S) : GO f6_car_0 B S := by
  obtain ⟨N, hN⟩ := hJ.1
  have hN8 := hN.2.1
  have hw := hN.2.2.1
  by_cases h8 : N = 8
  · subst h8
    exact go_bad hJ (Int.le_refl _) (fun mu hA => bc_8 hA hw)
  · obtain ⟨w', a1, a2⟩ := ad_J hN hJ.2.2.2 (by omega)
    refine go_ps (r := nI N) (w' := w') hJ (Int.le_refl _) ⟨_, a2⟩ (fun mu mu' hA g1 g3 => ?_)
    unfold f6_car_0 f4_car_0 f4_car_17
    rw [hA.1, hw, if_neg (by rw [show (8 : Int32) = nI 8 from rfl, n_le (by omega) (by omega)]; omega), if_neg n10, g1, ob, g3, a1, ob, ob, if_pos rfl]
theorem g_load {B : Int} {S : Stt} (x y : Int32) (hJ : JS B S) (hB : B ≤ 1000000000) : GO (f6_load_0 x y) (B + 20) S := by
  obtain ⟨N, hN⟩ := hJ.1
  have hN8 := hN.2.1
  have hw := hN.2.2.1
  by_cases hx : 0 ≤ x ∧ x < nI N
  · by_cases hy : 1 ≤ y ∧ y ≤ 20
    · obtain ⟨k, hk, rfl⟩ := car_k hN8 hx
      by_cases hc : S.1 (90 + 9 * k + 0) = 0 ∧ ¬ 20 < S.1 (90 + 9 * k + 1) + y
      · obtain ⟨r, w', a1, a2⟩ := lo_J hN hB hk hc.1 hy hc.2
        refine go_ps (r := r) (w' := w') hJ (by omega) ⟨_, a2⟩ (fun mu mu' hA g1 g3 => ?_)
        unfold f6_load_0 f4_load_0
        rw [hA.1, hasC_s hN8 hw hk, ob, if_neg n10, iw_s, ob, b01_t hy, if_neg n10, can_s hN8 hw hk, ob, b01_t hc, if_neg n10, g1, ob, g3, a1, ob, ob, if_pos rfl]
      · exact go_bad hJ (by omega) (fun mu hA => bl_s4 hA hN8 hw hk hy hc)
    · exact go_bad hJ (by omega) (fun mu hA => bl_a hA hN8 hw hx hy)
  · exact go_bad hJ (by omega) (fun mu hA => bl_i hA hN8 hw hx)
theorem g_release {B : Int} {S : Stt} (x y : Int32) (hJ : JS B S) : GO (f6_release_0 x y) B S := by
  obtain ⟨N, hN⟩ := hJ.1
  have hN8 := hN.2.1
  have hw := hN.2.2.1
  by_cases hx : 0 ≤ x ∧ x < nI N
  · by_cases hy : 0 ≤ y ∧ y ≤ 9
    · obtain ⟨k, hk, rfl⟩ := car_k hN8 hx
      obtain ⟨r, w', a1, a2⟩ := lr_J hN hk (sml_9 hy)
      refine go_ps (r := r) (w' := w') hJ (by omega) ⟨_, a2⟩ (fun mu mu' hA g1 g3 => ?_)
      unfold f6_release_0 f4_release_0
      rw [hA.1, hasC_s hN8 hw hk, ob, if_neg n10, iw_s, ob, b01_t hy, if_neg n10, g1, ob, g3, a1, ob, ob, if_pos rfl]
    · exact go_bad hJ (by omega) (fun mu hA => br_a hA hN8 hw hx hy)
  · exact go_bad hJ (by omega) (fun mu hA => br_i hA hN8 hw hx)
theorem g_brake {B : Int} {S : Stt} (x y : Int32) (hJ : JS B S) : GO (f6_brake_0 x y) B S := by
  obtain ⟨N, hN⟩ := hJ.1
  have hN8 := hN.2.1
  have hw := hN.2.2.1
  by_cases hx : 0 ≤ x ∧ x < nI N
  · by_cases hy : 0 ≤ y ∧ y ≤ 9
    · obtain ⟨k, hk, rfl⟩ := car_k hN8 hx
      by_cases hr : S.1 (90 + 9 * k + 0) = 1
      · obtain ⟨r, w', a1, a2⟩ := cb_J hN hk hr (sml_9 hy)
        refine go_ps (r := r) (w' := w') hJ (by omega) ⟨_, a2⟩ (fun mu mu' hA g1 g3 => ?_)
        unfold f6_brake_0 f4_brake_0
        rw [hA.1, hasC_s hN8 hw hk, ob, if_neg n10, iw_s, ob, b01_t hy, if_neg n10, ro_s hN8 hw hk, ob, b01_t hr, if_neg n10, g1, ob, g3, a1, ob, ob, if_pos rfl]
      · exact go_bad hJ (by omega) (fun mu hA => bb_s4 hA hN8 hw hk hy hr)
    · exact go_bad hJ (by omega) (fun mu hA => bb_a hA hN8 hw hx hy)
  · exact go_bad hJ (by omega) (fun mu hA => bb_i hA hN8 hw hx)
theorem g_pull {B : Int} {S : Stt} (x : Int32) (hJ : JS B S) : GO (f6_pull_0 x) B S := by
  obtain ⟨N, hN⟩ := hJ.1
  have hN8 := hN.2.1
  have hw := hN.2.2.1
  by_cases hx : 0 ≤ x ∧ x < nI N
  · obtain ⟨k, hk, rfl⟩ := car_k hN8 hx
    obtain ⟨r, w', a1, a2⟩ := hm_J hN hk
    refine go_ps (r := r) (w' := w') hJ (by omega) ⟨_, a2⟩ (fun mu mu' hA g1 g3 => ?_)
    unfold f6_pull_0 f4_pull_0
    rw [hA.1, hasC_s hN8 hw hk, ob, if_neg n10, g1, ob, g3, a1, ob, ob, if_pos rfl]
  · exact go_bad hJ (by omega) (fun mu hA => bp_i hA hN8 hw hx)
/-- run, with its answer -/
theorem r_run {B : Int} {S : Stt} {T : Nat} (hJ : JS B S) (hB : B ≤ 800000000) (hT : 1 ≤ T) (hT2 : T ≤ 60) : JS (B + 200 * (T : Int)) (setS (pushS S) (tkT T S.1)) ∧ ∀ mu, AS mu S → ∃ mu', f6_run_0 (nI T) mu = some (tkT T S.1 165 - S.1 165, mu') ∧ AS mu' (setS (pushS S) (tkT T S.1)) := by
  obtain ⟨N, hN⟩ := hJ.1
  have hB0 := hJ.2.2.2
  obtain ⟨_, _, e2, e3⟩ := pa_J (show T < 999 by omega) hN hB0 (by omega) (fun _ => 0)
  refine ⟨js_set (js_push hJ) (by omega) ⟨N, e2⟩, fun mu hA => ?_⟩
  obtain ⟨mu', g1, g2, g3, g4⟩ := as_push hA
  obtain ⟨a2, e1, _, _⟩ := pa_J (show T < 999 by omega) hN hB0 (by omega) (mu' 20)
  refine ⟨s1 (s1 mu' 20 a2) 0 (tkT T S.1), ?_, as_s (as_n g2 (by omega)) e2.1⟩
  unfold f6_run_0 f4_run_0
  rw [iw_s, ob, b01_t ⟨(n_le (a := 1) (by omega) (by omega)).mpr (by omega), (n_le (b := 60) (by omega) (by omega)).mpr hT2⟩, if_neg n10, g1, ob, g3]
  show Option.bind (Option.bind (f3_passTicks_0 (nI T) S.1 (mu' 20)) _) _ = _
  rw [e1, ob]
  show Option.bind (some (0, s1 (s1 mu' 20 a2) 0 (tkT T S.1) 0 165 - S.1 165, s1 (s1 mu' 20 a2) 0 (tkT T S.1))) _ = _
  rw [s1_k, ob, if_pos rfl]
theorem g_run {B : Int} {S : Stt} (x : Int32) (hJ : JS B S) (hB : B ≤ 800000000) : GO (f6_run_0 x) (B + 12000) S := by
  by_cases hx : 1 ≤ x ∧ x ≤ 60
  · have hx0 : (0 : Int32) ≤ x := by have := i_le.mp hx.1; rw [i_le]; rw [show (1 : Int32).toInt = 1 from rfl] at this; rw [show (0 : Int32).toInt = 0 from rfl]; omega
    obtain ⟨T, hT, rfl⟩ := rng_k 60 (by omega) ⟨hx0, hx.2⟩
    have h1 : 1 ≤ T := (n_le (a := 1) (by omega) (by omega)).mp hx.1
    obtain ⟨q1, q2⟩ := r_run hJ hB h1 hT
    exact ⟨_, _, js_mono q1 (by omega), q2⟩
  · exact go_bad hJ (by omega) (fun mu _ => bu_a hx)
def popS (S : Stt) : Stt := (S.2.1 0, (fun j => S.2.1 (j + 1)), S.2.2.1 - 1, S.2.2.2)
theorem g_undo {B : Int} {S : Stt} (hJ : JS B S) : GO f6_undo_0 B S := by
  by_cases h0 : S.2.2.1 = 0
  · exact go_bad hJ (Int.le_refl _) (fun mu hA => bd_s hA h0)
  · refine ⟨nI (S.2.2.1 - 1), popS S, ⟨hJ.2.1 0 (by omega), fun j hj => hJ.2.1 (j + 1) (by show j + 1 < S.2.2.1; have : j < S.2.2.1 - 1 := hj; omega), hJ.2.2⟩, fun mu hA => ?_⟩
    obtain ⟨h1, h2, ⟨x, hx, m1, hr⟩, hn, m2, h7, h8⟩ := hA
    obtain ⟨n, en⟩ : ∃ n, S.2.2.1 = n + 1 := ⟨S.2.2.1 - 1, by omega⟩
    obtain ⟨y, hy⟩ : ∃ y, y = (x + 5) % 6 := ⟨_, rfl⟩
    have hy6 : y < 6 := by omega
    have e1 : f1_popInto_0 mu = some (s1 (s1 mu 10 (upd (upd (mu 10) 1 (nI y)) 2 (nI n))) 0 (mu (2 + y))) := by
      have e2 : f1_popInto_0 mu = f1_popInto_18 (nI y) mu := by
        unfold f1_popInto_0
        by_cases hx0 : x = 0
        · subst hx0
          rw [m1, if_pos (by decide), hy]
          rfl
        · obtain ⟨x, rfl⟩ : ∃ z, x = z + 1 := ⟨x - 1, by omega⟩
          rw [m1, if_neg (by rw [show (0 : Int32) = nI 0 from rfl, n_le (by omega) (by omega)]; omega), sb_1 (by omega), hy, show (x + 1 + 5) % 6 = x by omega]
      rw [e2]
      unfold f1_popInto_18 f1_popInto_31
      simp (disch := omega) only [s1_k, s1_s1, upd_n, m2, en, sb_1, upd_s, gd_n, cl_n, s1_n, cp_i (h2 (2 + y) (by omega)) (h2 0 (by omega)), ob]
    have hr0 : mu (2 + y) = S.2.1 0 := by have := hr 0 (by omega); rw [show 2 + (x + 5 - 0) % 6 = 2 + y by omega] at this; exact this
    have hIy : Inv (mu (2 + y)) := h2 _ (by omega)
    refine ⟨s1 (s1 mu 10 (upd (upd (mu 10) 1 (nI y)) 2 (nI n))) 0 (mu (2 + y)), ?_, ?_⟩
    · unfold f6_undo_0 f4_undo_0 f4_undo_15
      rw [m2, en, if_neg (by rw [show (0 : Int32) = nI 0 from rfl, n_le (by omega) (by omega)]; omega), if_neg n10, e1, ob, ob, if_pos rfl]
      show some (s1 (s1 mu 10 (upd (upd (mu 10) 1 (nI y)) 2 (nI n))) 0 (mu (2 + y)) 10 2, _) = _
      rw [s1_n (by omega), s1_k, upd_s, Nat.add_sub_cancel]
    · refine ⟨by rw [s1_k]; exact hr0, fun k hk => ?_, ⟨y, hy6, by rw [s1_n (by omega), s1_k, upd_n (by omega), upd_s], fun j hj => ?_⟩, ?_, ?_, fun t ht => ⟨?_, fun u hu => ?_⟩, ?_⟩
      · by_cases e : k = 0
        · subst e; rw [s1_k]; exact hIy
        · rw [s1_n e, s1_n (by omega)]; exact h2 k hk
      · have hj2 : j < S.2.2.1 - 1 := hj
        rw [s1_n (by omega), s1_n (by omega)]
        show mu (2 + (y + 5 - j) % 6) = S.2.1 (j + 1)
        rw [show 2 + (y + 5 - j) % 6 = 2 + (x + 5 - (j + 1)) % 6 by omega]
        exact hr (j + 1) (by omega)
      · show S.2.2.1 - 1 ≤ 6; omega
      · rw [s1_n (by omega), s1_k, upd_s]
        show nI n = nI (S.2.2.1 - 1)
        rw [en, Nat.add_sub_cancel]
      · rw [s1_n (by omega), s1_n (by omega)]; exact (h7 t ht).1
      · rw [s1_n (by omega), s1_n (by omega)]; exact (h7 t ht).2 u hu
      · rw [s1_n (by omega), s1_n (by omega)]; exact h8
theorem g_keep {B : Int} {S : Stt} (x : Int32) (hJ : JS B S) : GO (f6_keep_0 x) B S := by
  by_cases hx : 0 ≤ x ∧ x ≤ 1
  · obtain ⟨t, ht, rfl⟩ := rng_k 1 (by omega) hx
    refine ⟨S.1 163, (S.1, S.2.1, S.2.2.1, fun u => if u = t then some S.1 else S.2.2.2 u), ⟨hJ.1, hJ.2.1, fun u v hu e => ?_, hJ.2.2.2⟩, fun mu hA => ?_⟩
    · have e' : (if u = t then some S.1 else S.2.2.2 u) = some v := e
      by_cases q : u = t
      · rw [if_pos q] at e'
        obtain rfl := Option.some.inj e'
        exact hJ.1
      · rw [if_neg q] at e'
        exact hJ.2.2.1 u v hu e'
    · obtain ⟨h1, h2, ⟨x, hx6, m1, hr⟩, hn, m2, h7, h8⟩ := hA
      refine ⟨s1 (s1 mu (8 + t) (mu 0)) 11 (upd (mu 11) t 1), ?_, ?_⟩
      · have c0 : f3_copyFrom_0 (mu 0) (mu (8 + t)) = some (mu 0) := cp_i (h2 0 (by omega)) (h2 (8 + t) (by omega))
        rw [h1] at c0 ⊢
        unfold f6_keep_0 f4_keep_0 f4_keep_13 f4_keep_14 f4_keep_37
        rw [rgq 0 1 2 _ _ rfl, if_pos hx, if_neg n10]
        simp (disch := omega) only [gd_n, cl_n, h1, c0, ob, s1_n, nar_1, if_true]
      · refine ⟨by rw [s1_n (by omega), s1_n (by omega)]; exact h1, fun k hk => ?_, ⟨x, hx6, by rw [s1_n (by omega), s1_n (by omega)]; exact m1, fun j hj => by rw [s1_n (by omega), s1_n (by omega)]; exact hr j hj⟩, hn, by rw [s1_n (by omega), s1_n (by omega)]; exact m2, fun u hu => ⟨?_, fun v hv => ?_⟩, by rw [s1_n (by omega), s1_n (by omega)]; exact h8⟩
        · rw [s1_n (by omega)]
          by_cases e : k = 8 + t
          · subst e; rw [s1_k]; exact h2 0 (by omega)
          · rw [s1_n e]; exact h2 k hk
        · rw [s1_k]
          show _ = if (if u = t then some S.1 else S.2.2.2 u).isSome = true then (1 : Int32) else 0
          by_cases q : u = t
          · subst q; rw [upd_s, if_pos rfl]; rfl
          · rw [upd_n q, if_neg q]; exact (h7 u hu).1
        · have hv' : (if u = t then some S.1 else S.2.2.2 u) = some v := hv
          rw [s1_n (by omega)]
          by_cases q : u = t
          · rw [if_pos q] at hv'
            obtain rfl := Option.some.inj hv'
            subst q; rw [s1_k]; exact h1
          · rw [if_neg q] at hv'
            rw [s1_n (by omega)]
            exact (h7 u hu).2 v hv'
  · exact go_bad hJ (Int.le_refl _) (fun mu _ => bk_a hx)
theorem g_goBack {B : Int} {S : Stt} (x : Int32) (hJ : JS B S) : GO (f6_goBack_0 x) B S := by
  by_cases hx : 0 ≤ x ∧ x ≤ 1
  · obtain ⟨t, ht, rfl⟩ := rng_k 1 (by omega) hx
    cases hk : S.2.2.2 t with
    | none => exact go_bad hJ (Int.le_refl _) (fun mu hA => bo_s hA (by omega) hk)
    | some v =>
      refine ⟨v 163, setS (pushS S) v, js_set (js_push hJ) (Int.le_refl _) (hJ.2.2.1 t v (by omega) hk), fun mu hA => ?_⟩
      obtain ⟨mu', g1, g2, g3, g4⟩ := as_push hA
      have hv : mu' (8 + t) = v := by rw [g4 (8 + t) (by omega)]; exact (hA.2.2.2.2.2.1 t (by omega)).2 v hk
      have hIv : Inv v := hv ▸ g2.2.1 (8 + t) (by omega)
      refine ⟨s1 mu' 0 v, ?_, as_s g2 hIv⟩
      have e11 : mu 11 t = 1 := by rw [(hA.2.2.2.2.2.1 t (by omega)).1, hk]; rfl
      have c0 : f3_copyFrom_0 (mu' (8 + t)) (mu' 0) = some (mu' (8 + t)) := cp_i (g2.2.1 (8 + t) (by omega)) (g2.2.1 0 (by omega))
      rw [hv] at c0
      unfold f6_goBack_0 f4_goBack_0 f4_goBack_13 f4_goBack_14
      rw [rgq 0 1 2 _ _ rfl, if_pos hx, if_neg n10]
      simp (disch := omega) only [gd_n, cl_n, e11, if_neg n10, g1, ob, hv, c0, s1_k, if_true]
  · exact go_bad hJ (Int.le_refl _) (fun mu _ => bo_a hx)
