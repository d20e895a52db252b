/-! the buffer -/
theorem chr_u {k : Nat} (h : k < 128) : ((nI k).toUInt32 % 65536).toInt32 = nI k := by
  have : ∀ k : Fin 128, ((nI k.val).toUInt32 % 65536).toInt32 = nI k.val := by decide
  exact this ⟨k, h⟩
theorem chr_n {k : Nat} (h : k < 128) : vp_nar .char (nI k) = nI k := by
  have : ∀ k : Fin 128, vp_nar .char (nI k.val) = nI k.val := by decide
  exact this ⟨k, h⟩
theorem rel_text {mu : Nat → Nat → Int32} {v0 v0' v1 v3 v4 v5 v6 v6' w : Nat → Int32} (h : Rel mu v0 v1 v3 v4 v5 v6) (e3 : v0' 3 = v0 3) (ht : TextR (s1 mu 12 w) v0' v6') : Rel (s1 mu 12 w) v0' v1 v3 v4 v5 v6' := by
  obtain ⟨h1, h2, h3, h4, h5⟩ := h
  exact ⟨by rw [s1_n (by omega)]; exact h1, fun j hj => by rw [s1_n (by omega)]; exact h2 j hj, hist_v0 (hist_mu h3 (fun k _ _ => s1_n (by omega)) (s1_n (by omega))) e3, shot_mu h4 (s1_n (by omega)) (s1_n (by omega)) (s1_n (by omega)), ht⟩
theorem q_clearBuffer {mu : Nat → Nat → Int32} {v0 v1 v3 v4 v5 v6 : Nat → Int32} (h : Rel mu v0 v1 v3 v4 v5 v6) :
    ∃ t r v0', f4_clearBuffer_0 mu = some t ∧ f5_clearBuffer_0 v0 = some (r, v0') ∧ Rel t.2 v0' v1 v3 v4 v5 v6 ∧ t.1 = r := by
  have hR := h
  obtain ⟨h1, h2, h3, h4, ⟨L, hL, l1, l2, l3⟩⟩ := h
  refine ⟨_, _, _, rfl, rfl, rel_text hR (by rw [upd_n (by omega), upd_n (by omega)]) ⟨0, by omega, by rw [s1_k, upd_s]; rfl, upd_s, fun i hi => by omega⟩, ?_⟩
  show mu 12 60 = upd v0 8 0 7
  rw [upd_n (by omega), l1, l2]
theorem q_append {mu : Nat → Nat → Int32} {v0 v1 v3 v4 v5 v6 : Nat → Int32} (x : Int32) (h : Rel mu v0 v1 v3 v4 v5 v6) :
    ∃ t r v0' v6', f4_append_0 x mu = some t ∧ f5_append_0 x v0 v6 = some (r, v0', v6') ∧ Rel t.2.2 v0' v1 v3 v4 v5 v6' ∧
      (t.1 = 0 ∧ v0' 8 = 0 ∧ t.2.1 = r ∨ t.1 = 2 ∧ v0' 8 = 1 ∨ t.1 = 3 ∧ v0' 8 = 2) := by
  have hR := h
  obtain ⟨h1, h2, h3, h4, ⟨L, hL, l1, l2, l3⟩⟩ := h
  unfold f4_append_0 f5_append_0 f5_append_30
  rw [iw_s, ob, in_s, ob]
  by_cases hx : 33 ≤ x ∧ x ≤ 126
  · rw [b01_t hx, if_neg n10, if_neg n10]
    have hx0 : (0 : Int32) ≤ x := by have := i_le.mp hx.1; rw [i_le]; rw [show (33 : Int32).toInt = 33 from rfl] at this; rw [show (0 : Int32).toInt = 0 from rfl]; omega
    obtain ⟨k, hk, rfl⟩ := rng_k 126 (by omega) ⟨hx0, hx.2⟩
    have hk33 : 33 ≤ k := (n_le (a := 33) (by omega) (by omega)).mp hx.1
    rw [chr_u (by omega)]
    unfold f2_addSign_0 f2_addSign_16 f2_addSign_38
    rw [l1, l2, if_neg (nI_n0 (by omega))]
    by_cases h60 : L = 60
    · subst h60
      rw [if_neg (by decide), ob, if_pos rfl, if_pos (show nI 60 = 60 by decide), rf_2, ob, if_neg n10]
      refine ⟨_, _, _, _, rfl, rfl, ?_, Or.inr (Or.inr ⟨rfl, u8 v0 2⟩)⟩
      show Rel (s1 mu 12 (mu 12)) _ _ _ _ _ _
      rw [s1_same]
      exact rel_8 hR
    · have e1 : nI L < 60 := by rw [show (60 : Int32) = nI 60 from rfl, n_lt (by omega) (by omega)]; omega
      have e2 : ¬ nI L = 60 := by rw [show (60 : Int32) = nI 60 from rfl, n_eq (by omega) (by omega)]; exact h60
      have z7 : upd v0 8 0 7 = nI L := by rw [upd_n (by omega)]; exact l2
      rw [if_pos e1, if_neg e2, rf_0, ob, if_pos rfl]
      simp (disch := omega) only [gd_n, cl_n, z7, chr_n, upd_n, l1, ob, if_neg n10, ad_1, upd_s, s1_k]
      refine ⟨_, _, _, _, rfl, rfl, rel_text hR (by rw [upd_n (by omega), upd_n (by omega)]) ?_, Or.inl ⟨rfl, ?_, rfl⟩⟩
      · refine ⟨L + 1, by omega, by rw [s1_k, upd_s], upd_s, fun i hi => ?_⟩
        rw [s1_k, upd_n (by omega)]
        by_cases e : i = L
        · subst e
          rw [upd_s, upd_s]
          exact ⟨rfl, k, hk33, hk, rfl⟩
        · rw [upd_n e, upd_n e]
          exact l3 i (by omega)
      · rw [upd_n (by omega), upd_s]
  · rw [b01_f hx, if_pos rfl, if_pos rfl, rf_1, ob, if_neg n10]
    exact ⟨_, _, _, _, rfl, rfl, rel_8 hR, Or.inr (Or.inl ⟨rfl, u8 v0 1⟩)⟩
/-! meanSpeed -/
def spN (w : Nat → Int32) (c : Nat) : Int32 := if isSt w 1 c = true then w (90 + 9 * c + 3) else 0
theorem spN_s {w : Nat → Int32} (hI : Inv w) : ∀ N, N ≤ 8 → ∃ s, s ≤ 40 * N ∧ smN (spN w) N = nI s
  | 0, _ => ⟨0, by omega, rfl⟩
  | N + 1, hN => by
    obtain ⟨s, hs, e⟩ := spN_s hI N (by omega)
    have : sml (spN w N) 40 := by
      unfold spN
      split
      · exact (inv_c hI (c := N) (by omega)).2.2.2.1
      · exact sml_n (k := 0) (by omega)
    obtain ⟨a, ha, e2⟩ := this
    refine ⟨s + a, by omega, ?_⟩
    show smN (spN w) N + spN w N = _
    rw [e, e2, ad_n]
theorem q_meanA {mu : Nat → Nat → Int32} {v0 v1 v3 v4 v5 v6 : Nat → Int32} (h : Rel mu v0 v1 v3 v4 v5 v6) :
    ∃ s n, s ≤ 320 ∧ n ≤ 8 ∧ f4_meanSpeed_0 mu = (if nI n = 0 then some FP.fconst0 else gf (FP.fdiv (FP.i2f (nI s)) (FP.i2f (nI n))) (some (FP.fdiv (FP.i2f (nI s)) (FP.i2f (nI n))))) ∧
      f5_meanSpeed_0 v1 v0 = (if nI n = 0 then some (FP.fconst0, upd v0 8 0) else gf (FP.fdiv (FP.i2f (nI s)) (FP.i2f (nI n))) (some (FP.fdiv (FP.i2f (nI s)) (FP.i2f (nI n)), upd v0 8 0))) := by
  have hR := h
  obtain ⟨h1, h2, h3, h4, h5⟩ := h
  have hI : Inv v1 := h1 ▸ h2 0 (by omega)
  obtain ⟨N, hN, hw⟩ := inv_N hI
  obtain ⟨s, hs, es⟩ := spN_s hI N hN
  refine ⟨s, nr v1 N, by omega, Nat.le_trans nr_le hN, ?_, ?_⟩
  · obtain ⟨s', m, g1, g2⟩ := lp_k (σ := Int32 × Int32) (L := fun m s j => f4_meanSpeed_6 mu m s.1 s.2 j) (N := N) (P := fun j s => s = (smN (spN v1) j, nI (nr v1 j))) (by
      intro m s j hj hs
      subst hs
      refine ⟨_, rfl, ?_⟩
      show f4_meanSpeed_6 mu (m + 1) (smN (spN v1) j) (nI (nr v1 j)) (nI j) = f4_meanSpeed_6 mu m (smN (spN v1) j + spN v1 j) (nI (nr v1 (j + 1))) (nI (j + 1))
      simp (disch := omega) only [f4_meanSpeed_6, f4_meanSpeed_51, h1, hw, n_le, if_neg (show ¬ N ≤ j by omega), gd_n, cl_n, ad_1]
      unfold spN
      by_cases hs : v1 (90 + 9 * j + 0) = 1
      · rw [if_pos hs, if_pos (st_i.mpr hs), nr_t (st_i.mpr hs)]
      · rw [if_neg hs, if_neg (fun q => hs (st_i.mp q)), nr_f (by simpa using fun q => hs (st_i.mp q)), Int32.add_zero]) N fu 0 (0, 0) rfl (by omega) rfl (by rw [fu_eq]; omega)
    subst g1
    unfold f4_meanSpeed_0
    refine Eq.trans g2 ?_
    show f4_meanSpeed_6 mu (m + 1) (smN (spN v1) N) (nI (nr v1 N)) (nI N) = _
    simp only [f4_meanSpeed_6, f4_meanSpeed_70, h1, hw, if_pos (Int32.le_refl _), es]
  · obtain ⟨s', m, g1, g2⟩ := lp_k (σ := Int32 × Int32) (L := fun m s j => f5_meanSpeed_11 v1 m s.1 s.2 j (upd v0 8 0)) (N := N) (P := fun j s => s = (smN (spN v1) j, nI (nr v1 j))) (by
      intro m s j hj hs
      subst hs
      refine ⟨_, rfl, ?_⟩
      show f5_meanSpeed_11 v1 (m + 1) (smN (spN v1) j) (nI (nr v1 j)) (nI j) (upd v0 8 0) = f5_meanSpeed_11 v1 m (smN (spN v1) j + spN v1 j) (nI (nr v1 (j + 1))) (nI (j + 1)) (upd v0 8 0)
      simp (disch := omega) only [f5_meanSpeed_11, f5_meanSpeed_47, f5_meanSpeed_64, hw, gdm162, cl162, n_le, if_neg (show ¬ N ≤ j by omega), isIn_o, e5_3, gd_n, cl_n, ob, b01_0, ad_1]
      unfold spN
      by_cases hs : v1 (90 + 9 * j + 0) = 1
      · rw [if_neg (fun q => q hs), if_neg (fun q => q hs), if_pos (st_i.mpr hs), nr_t (st_i.mpr hs)]
      · rw [if_pos hs, if_pos hs, if_neg (fun q => hs (st_i.mp q)), nr_f (by simpa using fun q => hs (st_i.mp q)), Int32.add_zero, Int32.add_zero]) N fu 0 (0, 0) rfl (by omega) rfl (by rw [fu_eq]; omega)
    subst g1
    unfold f5_meanSpeed_0
    refine Eq.trans g2 ?_
    show f5_meanSpeed_11 v1 (m + 1) (smN (spN v1) N) (nI (nr v1 N)) (nI N) (upd v0 8 0) = _
    simp only [f5_meanSpeed_11, f5_meanSpeed_85, hw, gdm162, cl162, if_pos (Int32.le_refl _), es]
