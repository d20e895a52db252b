/-! what both sides hold in common -/
def ShotR (mu : Nat → Nat → Int32) (v4 v5 : Nat → Int32) : Prop :=
  ∀ t, t < 2 → mu 11 t = v5 t ∧ (v5 t = 0 ∨ v5 t = 1) ∧ (v5 t ≠ 0 → ∀ i, i < 171 → v4 (171 * t + i) = mu (8 + t) i)
def TextR (mu : Nat → Nat → Int32) (v0 v6 : Nat → Int32) : Prop :=
  ∃ L, L ≤ 60 ∧ mu 12 60 = nI L ∧ v0 7 = nI L ∧ ∀ i, i < L → mu 12 i = v6 i ∧ ∃ k, 33 ≤ k ∧ k ≤ 126 ∧ v6 i = nI k
def Rel (mu : Nat → Nat → Int32) (v0 v1 v3 v4 v5 v6 : Nat → Int32) : Prop :=
  mu 0 = v1 ∧ HI mu ∧ HistR mu v0 v3 ∧ ShotR mu v4 v5 ∧ TextR mu v0 v6
theorem rf_0 {v0 : Nat → Int32} : f5_refused_0 0 v0 = some (0, upd v0 8 0) := by
  unfold f5_refused_0 f5_refused_14
  rw [if_pos (by decide), gz_0]
theorem rf_1 {v0 : Nat → Int32} : f5_refused_0 1 v0 = some (1, upd v0 8 1) := by
  unfold f5_refused_0 f5_refused_14
  rw [if_neg (by decide), gz_1]
theorem rf_2 {v0 : Nat → Int32} : f5_refused_0 2 v0 = some (1, upd v0 8 2) := by
  unfold f5_refused_0 f5_refused_14
  rw [if_neg (by decide), gz_1]
theorem rf_3 {v0 : Nat → Int32} : f5_refused_0 3 v0 = some (1, upd v0 8 3) := by
  unfold f5_refused_0 f5_refused_14
  rw [if_neg (by decide), gz_1]
theorem hist_v0 {mu : Nat → Nat → Int32} {v0 v0' v3 : Nat → Int32} (h : HistR mu v0 v3) (e : v0' 3 = v0 3) : HistR mu v0' v3 := by
  obtain ⟨x, n, h1, h2, h3, h4, h5, h6⟩ := h
  exact ⟨x, n, h1, h2, h3, h4, e.trans h5, h6⟩
theorem text_v0 {mu : Nat → Nat → Int32} {v0 v0' v6 : Nat → Int32} (h : TextR mu v0 v6) (e : v0' 7 = v0 7) : TextR mu v0' v6 := by
  obtain ⟨L, h1, h2, h3, h4⟩ := h
  exact ⟨L, h1, h2, e.trans h3, h4⟩
theorem rel_v0 {mu : Nat → Nat → Int32} {v0 v0' v1 v3 v4 v5 v6 : Nat → Int32} (h : Rel mu v0 v1 v3 v4 v5 v6) (e : v0' 3 = v0 3) (e2 : v0' 7 = v0 7) : Rel mu v0' v1 v3 v4 v5 v6 :=
  ⟨h.1, h.2.1, hist_v0 h.2.2.1 e, h.2.2.2.1, text_v0 h.2.2.2.2 e2⟩
theorem rel_8 {mu : Nat → Nat → Int32} {v0 v1 v3 v4 v5 v6 : Nat → Int32} {x : Int32} (h : Rel mu v0 v1 v3 v4 v5 v6) : Rel mu (upd v0 8 x) v1 v3 v4 v5 v6 :=
  rel_v0 h (upd_n (by omega)) (upd_n (by omega))
theorem text_mu {mu mu' : Nat → Nat → Int32} {v0 v6 : Nat → Int32} (h : TextR mu v0 v6) (e : mu' 12 = mu 12) : TextR mu' v0 v6 := by
  unfold TextR
  rw [e]
  exact h
theorem shot_mu {mu mu' : Nat → Nat → Int32} {v4 v5 : Nat → Int32} (h : ShotR mu v4 v5) (e : mu' 11 = mu 11) (e8 : mu' 8 = mu 8) (e9 : mu' 9 = mu 9) : ShotR mu' v4 v5 := by
  intro t ht
  rw [e]
  obtain ⟨h1, h2, h3⟩ := h t ht
  refine ⟨h1, h2, fun q i hi => ?_⟩
  rw [h3 q i hi]
  obtain rfl | rfl : t = 0 ∨ t = 1 := by omega
  · show mu 8 i = mu' 8 i; rw [e8]
  · show mu 9 i = mu' 9 i; rw [e9]
theorem hist_mu {mu mu' : Nat → Nat → Int32} {v0 v3 : Nat → Int32} (h : HistR mu v0 v3) (e : ∀ k, 2 ≤ k → k < 8 → mu' k = mu k) (e1 : mu' 10 = mu 10) : HistR mu' v0 v3 := by
  obtain ⟨x, n, h1, h2, h3, h4, h5, h6⟩ := h
  refine ⟨x, n, h1, h2, by rw [e1]; exact h3, by rw [e1]; exact h4, h5, fun j hj i hi => ?_⟩
  rw [h6 j hj i hi, e _ (by omega) (by omega)]
/-- the state alone is changed -/
theorem rel_s {mu : Nat → Nat → Int32} {v0 v1 v3 v4 v5 v6 w : Nat → Int32} (h : Rel mu v0 v1 v3 v4 v5 v6) (hw : Inv w) : Rel (s1 mu 0 w) v0 w v3 v4 v5 v6 := by
  obtain ⟨h1, h2, h3, h4, h5⟩ := h
  refine ⟨s1_k, ?_, hist_mu h3 (fun k _ _ => s1_n (by omega)) (s1_n (by omega)), shot_mu h4 (s1_n (by omega)) (s1_n (by omega)) (s1_n (by omega)), text_mu h5 (s1_n (by omega))⟩
  intro k hk
  by_cases e : k = 0
  · subst e; rw [s1_k]; exact hw
  · rw [s1_n e]; exact h2 k hk
/-- a row of movers alone is changed -/
theorem rel_m {mu : Nat → Nat → Int32} {v0 v1 v3 v4 v5 v6 w : Nat → Int32} {k : Nat} (h : Rel mu v0 v1 v3 v4 v5 v6) (hk : 20 ≤ k) : Rel (s1 mu k w) v0 v1 v3 v4 v5 v6 := by
  obtain ⟨h1, h2, h3, h4, h5⟩ := h
  exact ⟨by rw [s1_n (by omega)]; exact h1, fun j hj => by rw [s1_n (by omega)]; exact h2 j hj, hist_mu h3 (fun k _ _ => s1_n (by omega)) (s1_n (by omega)), shot_mu h4 (s1_n (by omega)) (s1_n (by omega)) (s1_n (by omega)), text_mu h5 (s1_n (by omega))⟩
/-- the trial state alone is changed -/
theorem rel_t {mu : Nat → Nat → Int32} {v0 v1 v3 v4 v5 v6 w : Nat → Int32} (h : Rel mu v0 v1 v3 v4 v5 v6) (hw : Inv w) : Rel (s1 mu 1 w) v0 v1 v3 v4 v5 v6 := by
  obtain ⟨h1, h2, h3, h4, h5⟩ := h
  refine ⟨by rw [s1_n (by omega)]; exact h1, ?_, hist_mu h3 (fun k _ _ => s1_n (by omega)) (s1_n (by omega)), shot_mu h4 (s1_n (by omega)) (s1_n (by omega)) (s1_n (by omega)), text_mu h5 (s1_n (by omega))⟩
  intro k hk
  by_cases e : k = 1
  · subst e; rw [s1_k]; exact hw
  · rw [s1_n e]; exact h2 k hk
/-- push and saves -/
theorem rel_p {mu : Nat → Nat → Int32} {v0 v1 v3 v4 v5 v6 : Nat → Int32} (h : Rel mu v0 v1 v3 v4 v5 v6) :
    ∃ mu' v0' v3', f1_push_0 mu = some mu' ∧ f5_saves_0 v1 v0 v3 = some (v0', v3') ∧ Rel mu' v0' v1 v3' v4 v5 v6 ∧ mu' 0 = v1 ∧ (∀ k, k < 2 ∨ 8 ≤ k ∧ k ≠ 10 → mu' k = mu k) ∧ (∀ j, j ≠ 3 → v0' j = v0 j) := by
  obtain ⟨h1, h2, h3, h4, h5⟩ := h
  obtain ⟨mu', v0', v3', g1, g2, g3, g4, g5, g6⟩ := ps_s h2 h1 h3
  refine ⟨mu', v0', v3', g1, g2, ⟨?_, g3, g4, shot_mu h4 (g5 11 (by omega)) (g5 8 (by omega)) (g5 9 (by omega)), text_v0 (text_mu h5 (g5 12 (by omega))) (g6 7 (by omega))⟩, ?_, g5, g6⟩
  · rw [g5 0 (by omega)]; exact h1
  · rw [g5 0 (by omega)]; exact h1
/-! undo -/
theorem q_undo {mu : Nat → Nat → Int32} {v0 v1 v3 v4 v5 v6 : Nat → Int32} (h : Rel mu v0 v1 v3 v4 v5 v6) :
    ∃ t r v0' v1', f4_undo_0 mu = some t ∧ f5_undo_0 v3 v0 v1 = some (r, v0', v1') ∧ Rel t.2.2 v0' v1' v3 v4 v5 v6 ∧
      (t.1 = 0 ∧ v0' 8 = 0 ∧ t.2.1 = r ∨ t.1 = 3 ∧ v0' 8 = 1) := by
  have hR := h
  obtain ⟨h1, h2, ⟨x, n, hx, hn, m1, m2, m3, hr⟩, h4, h5⟩ := h
  unfold f4_undo_0 f5_undo_0 f4_undo_15 f5_undo_13
  by_cases h0 : n = 0
  · subst h0
    refine ⟨(3, 0, mu), 0, upd v0 8 1, v1, ?_, ?_, rel_8 hR, Or.inr ⟨rfl, upd_s⟩⟩
    · rw [m2, if_pos (by decide), if_pos rfl]
    · rw [m3, if_pos (by decide), rf_1, ob, if_neg (show ¬ (1 : Int32) = 0 by decide)]
  · obtain ⟨n, rfl⟩ : ∃ m, n = m + 1 := ⟨n - 1, by omega⟩
    obtain ⟨y, hy⟩ : ∃ y, y = (x + 5) % 6 := ⟨_, rfl⟩
    have hy6 : y < 6 := by omega
    have e1 : f1_popInto_0 mu = some (s1 (s1 mu 10 (upd (upd (mu 10) 1 (nI y)) 2 (nI n))) 0 (mu (2 + y))) := by
      have e2 : f1_popInto_0 mu = f1_popInto_18 (nI y) mu := by
        unfold f1_popInto_0
        by_cases hx0 : x = 0
        · subst hx0
          rw [m1, if_pos (by decide), hy]
          rfl
        · obtain ⟨x, rfl⟩ : ∃ z, x = z + 1 := ⟨x - 1, by omega⟩
          rw [m1, if_neg (by rw [show (0 : Int32) = nI 0 from rfl, n_le (by omega) (by omega)]; omega), sb_1 (by omega), hy, show (x + 1 + 5) % 6 = x by omega]
      rw [e2]
      unfold f1_popInto_18 f1_popInto_31
      simp (disch := omega) only [s1_k, s1_s1, upd_n, m2, sb_1, upd_s, gd_n, cl_n, s1_n, cp_i (h2 (2 + y) (by omega)) (h2 0 (by omega)), ob]
    refine ⟨(0, nI n, s1 (s1 mu 10 (upd (upd (mu 10) 1 (nI y)) 2 (nI n))) 0 (mu (2 + y))), nI n, upd (upd v0 8 0) 3 (nI n), mu (2 + y), ?_, ?_, ?_, Or.inl ⟨rfl, by rw [upd_n (by omega), upd_s], rfl⟩⟩
    · rw [m2, if_neg (by rw [show (0 : Int32) = nI 0 from rfl, n_le (by omega) (by omega)]; omega), if_neg (by decide), e1, ob, s1_n (by omega), s1_k, upd_s]
    · rw [m3, if_neg (by rw [show (0 : Int32) = nI 0 from rfl, n_eq (by omega) (by omega)]; omega), rf_0, ob, if_pos rfl]
      show f5_undo_33 v3 fu 0 (upd (upd v0 8 0) 3 ((upd v0 8 0) 3 - 1)) v1 = _
      rw [upd_n (by omega), m3, sb_1 (by omega)]
      have e3 : upd (upd v0 8 0) 3 (nI n) 3 = nI n := upd_s
      have hIy := h2 (2 + y) (by omega)
      obtain ⟨a, e, ha⟩ := lp_p (σ := Nat → Int32) (L := fun m s j => f5_undo_33 v3 m j (upd (upd v0 8 0) 3 (nI n)) s) (N := 171) (P := fun j s => (∀ i, i < j → s i = mu (2 + y) i) ∧ (∀ i, 171 ≤ i → s i = 0)) (Q := fun a => a = (nI n, upd (upd v0 8 0) 3 (nI n), mu (2 + y))) (by
        intro m s j hj hs
        have h8 : ¬ (171 : Int32) ≤ nI j := by rw [c171, n_le (by omega) (by omega)]; omega
        refine ⟨upd s j (v3 (171 * n + j)), ⟨?_, ?_⟩, ?_⟩
        · intro i hi
          by_cases e : i = j
          · subst e
            rw [upd_s, hr n (by omega) i hj, hy, show (x + 6 - (n + 1) + n) % 6 = (x + 5) % 6 by omega]
          · rw [upd_n e]; exact hs.1 i (by omega)
        · intro i hi
          rw [upd_n (by omega)]
          exact hs.2 i hi
        · show f5_undo_33 v3 (m + 1) (nI j) (upd (upd v0 8 0) 3 (nI n)) s = _
          simp (disch := omega) only [f5_undo_33, if_neg h8, e3, mr_171, ad_n, gd_n, cl_n, ad_1]) (by
        intro m s hs
        refine ⟨(nI n, upd (upd v0 8 0) 3 (nI n), s), ?_, by rw [row_eq hIy hs.1 hs.2]⟩
        show f5_undo_33 v3 (m + 1) (nI 171) (upd (upd v0 8 0) 3 (nI n)) s = _
        simp only [f5_undo_33, if_pos (show (171 : Int32) ≤ nI 171 by decide), e3]) 171 fu 0 v1 rfl (by omega) ⟨fun i hi => by omega, fun i hi => by rw [← h1]; exact inv_z (h2 0 (by omega)) hi⟩ (by rw [fu_eq]; omega)
      rw [← ha]
      exact e
    · show Rel (s1 (s1 mu 10 (upd (upd (mu 10) 1 (nI y)) 2 (nI n))) 0 (mu (2 + y))) _ (mu (2 + y)) v3 v4 v5 v6
      refine ⟨s1_k, ?_, ⟨y, n, hy6, by omega, ?_, ?_, upd_s, ?_⟩, shot_mu h4 ?_ ?_ ?_, text_v0 (text_mu h5 ?_) ?_⟩
      · intro k hk
        by_cases e : k = 0
        · subst e; show Inv (s1 _ 0 _ 0); rw [s1_k]; exact h2 (2 + y) (by omega)
        · show Inv (s1 _ 0 _ k)
          rw [s1_n e, s1_n (by omega)]; exact h2 k hk
      · show s1 _ 0 _ 10 1 = _
        rw [s1_n (by omega), s1_k, upd_n (by omega), upd_s]
      · show s1 _ 0 _ 10 2 = _
        rw [s1_n (by omega), s1_k, upd_s]
      · intro j hj i hi
        show _ = s1 _ 0 _ _ i
        rw [s1_n (by omega), s1_n (by omega), hr j (by omega) i hi, show (x + 6 - (n + 1) + j) % 6 = (y + 6 - n + j) % 6 by omega]
      · show s1 _ 0 _ 11 = _
        rw [s1_n (by omega), s1_n (by omega)]
      · show s1 _ 0 _ 8 = _
        rw [s1_n (by omega), s1_n (by omega)]
      · show s1 _ 0 _ 9 = _
        rw [s1_n (by omega), s1_n (by omega)]
      · show s1 _ 0 _ 12 = _
        rw [s1_n (by omega), s1_n (by omega)]
      · rw [upd_n (by omega), upd_n (by omega)]
