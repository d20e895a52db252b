/-! checks of arguments -/
theorem iw_s {v lo hi : Int32} : f4_isWithin_0 v lo hi = some (b01 (lo ≤ v ∧ v ≤ hi)) := by
  unfold f4_isWithin_0 f4_isWithin_14 f4_isWithin_15
  by_cases h1 : v < lo
  · rw [if_pos h1, gz_0, b01_f (fun h => by rw [i_lt] at h1; have := i_le.mp h.1; omega)]
  · rw [if_neg h1]
    by_cases h2 : hi < v
    · rw [if_pos h2, gz_0, b01_f (fun h => by rw [i_lt] at h2; have := i_le.mp h.2; omega)]
    · rw [if_neg h2, gz_1, b01_t ⟨by rw [i_lt] at h1; rw [i_le]; omega, by rw [i_lt] at h2; rw [i_le]; omega⟩]
theorem rgq {α : Type} {x : Int32} (lo hi hi1 : Int32) (a b : α) (h : hi1.toInt = hi.toInt + 1) : (if x < lo then a else if hi1 ≤ x then a else b) = if lo ≤ x ∧ x ≤ hi then b else a := by
  by_cases h1 : x < lo
  · rw [if_pos h1, if_neg (fun q => by rw [i_lt] at h1; have := i_le.mp q.1; omega)]
  · rw [if_neg h1]
    by_cases h2 : hi1 ≤ x
    · rw [if_pos h2, if_neg (fun q => by rw [i_le] at h2; have := i_le.mp q.2; omega)]
    · rw [if_neg h2, if_pos ⟨by rw [i_lt] at h1; rw [i_le]; omega, by rw [i_le] at h2; rw [i_le]; omega⟩]
theorem rng_k {x : Int32} (M : Nat) (hM : M < 2 ^ 31) (h : 0 ≤ x ∧ x ≤ nI M) : ∃ k, k ≤ M ∧ x = nI k := by
  have h0 := i_le.mp h.1
  have h1 := i_le.mp h.2
  rw [nI_toInt hM] at h1
  exact sml_of h0 h1 hM
theorem u8 (v0 : Nat → Int32) (x : Int32) : upd v0 8 x 8 = x := upd_s
theorem n10 : ¬ (1 : Int32) = 0 := by decide
theorem n20 : ¬ (2 : Int32) = 0 := by decide
theorem n30 : ¬ (3 : Int32) = 0 := by decide
/-! keep -/
theorem q_keep {mu : Nat → Nat → Int32} {v0 v1 v3 v4 v5 v6 : Nat → Int32} (x : Int32) (h : Rel mu v0 v1 v3 v4 v5 v6) :
    ∃ t r v0' v4' v5', f4_keep_0 x mu = some t ∧ f5_keep_0 v1 x v0 v4 v5 = some (r, v0', v4', v5') ∧ Rel t.2.2 v0' v1 v3 v4' v5' v6 ∧
      (t.1 = 0 ∧ v0' 8 = 0 ∧ t.2.1 = r ∨ t.1 = 2 ∧ v0' 8 = 1) := by
  have hR := h
  obtain ⟨h1, h2, h3, h4, h5⟩ := h
  unfold f4_keep_0 f5_keep_0 f4_keep_13
  rw [rgq 0 1 2 _ _ rfl, in_s, ob]
  by_cases hx : 0 ≤ x ∧ x ≤ 1
  · rw [if_pos hx, b01_t hx, if_neg n10]
    obtain ⟨t, ht, rfl⟩ := rng_k 1 (by omega) hx
    unfold f4_keep_14 f5_keep_15 f4_keep_37
    rw [if_neg n10, rf_0, ob, if_pos rfl]
    simp (disch := omega) only [gd_n, cl_n, cp_i (h2 0 (by omega)) (h2 (8 + t) (by omega)), ob, s1_n, nar_1]
    obtain ⟨s', m, g1, g2⟩ := lp_k (σ := Nat → Int32) (L := fun m s j => f5_keep_25 v1 m (nI t) j (upd v0 8 0) s v5) (N := 171) (P := fun j s => ∀ i, s i = if 171 * t ≤ i ∧ i < 171 * t + j then v1 (i - 171 * t) else v4 i) (by
      intro n s j hj hs
      have h8 : ¬ (171 : Int32) ≤ nI j := by rw [c171, n_le (by omega) (by omega)]; omega
      refine ⟨upd s (171 * t + j) (v1 j), ?_, ?_⟩
      · intro i
        by_cases e : i = 171 * t + j
        · subst e
          rw [upd_s, if_pos (by omega), show 171 * t + j - 171 * t = j by omega]
        · rw [upd_n e, hs i]
          by_cases q : 171 * t ≤ i ∧ i < 171 * t + j
          · rw [if_pos q, if_pos (by omega)]
          · rw [if_neg q, if_neg (by omega)]
      · show f5_keep_25 v1 (n + 1) (nI t) (nI j) (upd v0 8 0) s v5 = _
        simp (disch := omega) only [f5_keep_25, if_neg h8, mr_171, ad_n, gd_n, cl_n, ad_1]) 171 fu 0 v4 rfl (by omega) (fun i => by rw [if_neg (by omega)]) (by rw [fu_eq]; omega)
    refine ⟨_, v1 163, upd v0 8 0, s', upd v5 t 1, rfl, Eq.trans g2 ?_, ?_, Or.inl ⟨rfl, upd_s, ?_⟩⟩
    · show f5_keep_25 v1 (m + 1) (nI t) (nI 171) (upd v0 8 0) s' v5 = _
      simp (disch := omega) only [f5_keep_25, if_pos (show (171 : Int32) ≤ nI 171 by decide), gd_n, gdm163, cl_n, cl163, nar_1]
    · show Rel (s1 (s1 mu (8 + t) (mu 0)) 11 (upd (mu 11) t 1)) _ v1 v3 _ _ v6
      refine ⟨by rw [s1_n (by omega), s1_n (by omega)]; exact h1, ?_, hist_v0 (hist_mu h3 (fun k _ _ => by rw [s1_n (by omega), s1_n (by omega)]) (by rw [s1_n (by omega), s1_n (by omega)])) (upd_n (by omega)), ?_, text_v0 (text_mu h5 (by rw [s1_n (by omega), s1_n (by omega)])) (upd_n (by omega))⟩
      · intro k hk
        rw [s1_n (by omega)]
        by_cases e : k = 8 + t
        · subst e; rw [s1_k]; exact h2 0 (by omega)
        · rw [s1_n e]; exact h2 k hk
      · intro u hu
        rw [s1_k]
        by_cases e : u = t
        · subst e
          rw [upd_s, upd_s]
          refine ⟨rfl, Or.inr rfl, fun _ i hi => ?_⟩
          rw [g1, if_pos (by omega), s1_n (by omega), s1_k, h1, show 171 * u + i - 171 * u = i by omega]
        · rw [upd_n e, upd_n e]
          obtain ⟨p1, p2, p3⟩ := h4 u hu
          refine ⟨p1, p2, fun q i hi => ?_⟩
          rw [g1, if_neg (by omega), s1_n (by omega), s1_n (by omega)]
          exact p3 q i hi
    · show mu 0 163 = v1 163
      rw [h1]
  · rw [if_neg hx, b01_f hx, if_pos rfl]
    unfold f4_keep_14 f5_keep_15
    rw [if_pos rfl, rf_1, ob, if_neg n10]
    exact ⟨_, _, _, _, _, rfl, rfl, rel_8 hR, Or.inr ⟨rfl, u8 v0 1⟩⟩
/-! goBack -/
theorem q_goBack {mu : Nat → Nat → Int32} {v0 v1 v3 v4 v5 v6 : Nat → Int32} (x : Int32) (h : Rel mu v0 v1 v3 v4 v5 v6) :
    ∃ t r v0' v1' v3', f4_goBack_0 x mu = some t ∧ f5_goBack_0 v4 v5 x v0 v1 v3 = some (r, v0', v1', v3') ∧ Rel t.2.2 v0' v1' v3' v4 v5 v6 ∧
      (t.1 = 0 ∧ v0' 8 = 0 ∧ t.2.1 = r ∨ t.1 = 2 ∧ v0' 8 = 1 ∨ t.1 = 3 ∧ v0' 8 = 2) := by
  have hR := h
  obtain ⟨h1, h2, h3, h4, h5⟩ := h
  unfold f4_goBack_0 f5_goBack_0 f4_goBack_13
  rw [rgq 0 1 2 _ _ rfl, in_s, ob]
  by_cases hx : 0 ≤ x ∧ x ≤ 1
  · rw [if_pos hx, b01_t hx, if_neg n10]
    obtain ⟨t, ht, rfl⟩ := rng_k 1 (by omega) hx
    obtain ⟨p1, p2, p3⟩ := h4 t (by omega)
    unfold f4_goBack_14 f5_goBack_28
    rw [if_neg n10]
    simp (disch := omega) only [gd_n, cl_n, p1]
    by_cases hk : v5 t = 0
    · rw [if_pos hk, if_pos hk, rf_2, ob, if_neg n10]
      exact ⟨_, _, _, _, _, rfl, rfl, rel_8 hR, Or.inr (Or.inr ⟨rfl, u8 v0 2⟩)⟩
    · rw [if_neg hk, if_neg hk, rf_0, ob, if_pos rfl]
      obtain ⟨mu', v0', v3', g1, g2, g3, g4, g5, g6⟩ := rel_p (rel_8 (x := 0) hR)
      have g7 := g2
      show ∃ t r v0' v1' v3', _ ∧ Option.bind (f5_saves_0 v1 (upd v0 8 0) v3) _ = some (r, v0', v1', v3') ∧ _
      rw [g1, ob, g2, ob, cp_i (g3.2.1 (8 + t) (by omega)) (g3.2.1 0 (by omega)), ob]
      have hIy := g3.2.1 (8 + t) (by omega)
      have e8 : mu' (8 + t) = mu (8 + t) := g5 (8 + t) (by omega)
      obtain ⟨a, e, ha⟩ := lp_p (σ := Nat → Int32) (L := fun m s j => f5_goBack_42 v4 v5 m (nI t) j v0' s v3') (N := 171) (P := fun j s => (∀ i, i < j → s i = mu' (8 + t) i) ∧ (∀ i, 171 ≤ i → s i = 0)) (Q := fun a => a = (mu' (8 + t) 163, v0', mu' (8 + t), v3')) (by
        intro m s j hj hs
        have h8 : ¬ (171 : Int32) ≤ nI j := by rw [c171, n_le (by omega) (by omega)]; omega
        refine ⟨upd s j (v4 (171 * t + j)), ⟨?_, ?_⟩, ?_⟩
        · intro i hi
          by_cases e : i = j
          · subst e
            rw [upd_s, p3 hk i hj, e8]
          · rw [upd_n e]; exact hs.1 i (by omega)
        · intro i hi
          rw [upd_n (by omega)]
          exact hs.2 i hi
        · show f5_goBack_42 v4 v5 (m + 1) (nI t) (nI j) v0' s v3' = _
          simp (disch := omega) only [f5_goBack_42, if_neg h8, mr_171, ad_n, gd_n, cl_n, ad_1]) (by
        intro m s hs
        refine ⟨(s 163, v0', s, v3'), ?_, by rw [row_eq hIy hs.1 hs.2]⟩
        show f5_goBack_42 v4 v5 (m + 1) (nI t) (nI 171) v0' s v3' = _
        simp only [f5_goBack_42, if_pos (show (171 : Int32) ≤ nI 171 by decide), gdm163, cl163]) 171 fu 0 v1 rfl (by omega) ⟨fun i hi => by omega, fun i hi => by rw [← h1]; exact inv_z (h2 0 (by omega)) hi⟩ (by rw [fu_eq]; omega)
      rw [ha] at e
      refine ⟨_, _, _, _, _, rfl, e, rel_s g3 hIy, Or.inl ⟨rfl, ?_, ?_⟩⟩
      · rw [g6 8 (by omega), upd_s]
      · show s1 mu' 0 (mu' (8 + t)) 0 163 = _
        rw [s1_k]
  · rw [if_neg hx, b01_f hx, if_pos rfl]
    unfold f4_goBack_14 f5_goBack_28
    rw [if_pos rfl, rf_1, ob, if_neg n10]
    exact ⟨_, _, _, _, _, rfl, rfl, rel_8 hR, Or.inr (Or.inl ⟨rfl, u8 v0 1⟩)⟩
