/-! ifAlone, leastBrake -/
theorem sml_20 {y : Int32} (h : 0 ≤ y ∧ y ≤ 20) : sml y 20 := by
  obtain ⟨k, hk, rfl⟩ := rng_k 20 (by omega) h
  exact sml_n hk
theorem q_ifAlone {mu : Nat → Nat → Int32} {v0 v1 v2 v3 v4 v5 v6 v7 v8 : Nat → Int32} (x y z : Int32) (h : Rel mu v0 v1 v3 v4 v5 v6) :
    ∃ t r v0' v2' v7' v8', f4_ifAlone_0 x y z mu = some t ∧ f5_ifAlone_0 x y z v0 v1 v2 v7 v8 = some (r, v0', v1, v2', v7', v8') ∧ Rel t.2.2 v0' v1 v3 v4 v5 v6 ∧
      (t.1 = 0 ∧ v0' 8 = 0 ∧ t.2.1 = r ∨ t.1 = 2 ∧ v0' 8 = 1) := by
  have hR := h
  obtain ⟨h1, h2, h3, h4, h5⟩ := h
  have hI : Inv v1 := h1 ▸ h2 0 (by omega)
  unfold f4_ifAlone_0 f5_ifAlone_0 f5_ifAlone_31 f5_ifAlone_32
  rw [iw_s, ob, in_s, ob, rf_1, ob, if_neg n10]
  by_cases hx : 0 ≤ x ∧ x ≤ 20
  · rw [b01_t hx, if_neg n10, if_neg n10, iw_s, ob, ibr_s, ob]
    by_cases hy : 0 ≤ y ∧ y ≤ 9
    · rw [b01_t hy, if_neg n10, if_neg n10, iw_s, ob, in_s, ob]
      by_cases hz : 0 ≤ z ∧ z ≤ 4
      · rw [b01_t hz, if_neg n10, if_neg n10, rf_0, ob, if_pos rfl]
        obtain ⟨iW, a2, c1⟩ := al_c hR (sml_20 hx) (sml_9 hy)
        obtain ⟨b2, b7, b8, m1⟩ := al_m (v2 := v2) (v7 := v7) (v8 := v8) (what := z) hI iW (sml_20 hx) (sml_9 hy)
        rw [c1, ob, m1, ob, gdc0, cl0]
        have hR2 : Rel (s1 (s1 mu (1 + 20) a2) 1 (alW x y v1).2) (upd v0 8 0) v1 v3 v4 v5 v6 := rel_8 (rel_t (rel_m hR (by omega)) iW)
        have z1 : s1 (s1 mu (1 + 20) a2) 1 (alW x y v1).2 1 = (alW x y v1).2 := s1_k
        simp only [z1]
        by_cases w0 : z = 0
        · rw [if_pos w0, if_pos w0]
          exact ⟨_, _, _, _, _, _, rfl, rfl, hR2, Or.inl ⟨rfl, u8 v0 0, rfl⟩⟩
        rw [if_neg w0, if_neg w0]
        by_cases w1 : z = 1
        · rw [if_pos w1, if_pos w1]
          exact ⟨_, _, _, _, _, _, rfl, rfl, hR2, Or.inl ⟨rfl, u8 v0 0, rfl⟩⟩
        rw [if_neg w1, if_neg w1]
        by_cases w2 : z = 2
        · rw [if_pos w2, if_pos w2]
          exact ⟨_, _, _, _, _, _, rfl, rfl, hR2, Or.inl ⟨rfl, u8 v0 0, rfl⟩⟩
        rw [if_neg w2, if_neg w2]
        by_cases w3 : z = 3
        · rw [if_pos w3, if_pos w3]
          exact ⟨_, _, _, _, _, _, rfl, rfl, hR2, Or.inl ⟨rfl, u8 v0 0, rfl⟩⟩
        rw [if_neg w3, if_neg w3]
        exact ⟨_, _, _, _, _, _, rfl, rfl, hR2, Or.inl ⟨rfl, u8 v0 0, rfl⟩⟩
      · rw [b01_f hz, if_pos rfl, if_pos rfl]
        exact ⟨_, _, _, _, _, _, rfl, rfl, rel_8 hR, Or.inr ⟨rfl, u8 v0 1⟩⟩
    · rw [b01_f hy, if_pos rfl, if_pos rfl]
      exact ⟨_, _, _, _, _, _, rfl, rfl, rel_8 hR, Or.inr ⟨rfl, u8 v0 1⟩⟩
  · rw [b01_f hx, if_pos rfl, if_pos rfl]
    exact ⟨_, _, _, _, _, _, rfl, rfl, rel_8 hR, Or.inr ⟨rfl, u8 v0 1⟩⟩
def lbU (G : Nat → Bool) : Nat → Nat → Int32
  | 0, _ => -1
  | d + 1, b => if G b = true then nI b else lbU G d (b + 1)
def lbG (x : Int32) (w : Nat → Int32) (b : Nat) : Bool := decide ((alW x (nI b) w).2 (90 + 9 * 0 + 0) = 2 ∧ (alW x (nI b) w).2 (90 + 9 * 0 + 6) = x)
theorem lc_s {v0 v1 v3 v4 v5 v6 : Nat → Int32} {x : Int32} (hx : sml x 20) : ∀ d b fuel mu, 10 - b = d → b ≤ 10 → d < fuel → Rel mu v0 v1 v3 v4 v5 v6 →
    ∃ mu', f4_leastBrake_12 fuel x (nI b) mu = some (0, lbU (lbG x v1) d b, mu') ∧ Rel mu' v0 v1 v3 v4 v5 v6 := by
  intro d
  induction d with
  | zero =>
    intro b fuel mu hd hb hf hR
    obtain ⟨m, rfl⟩ : ∃ m, fuel = m + 1 := ⟨fuel - 1, by omega⟩
    obtain rfl : b = 10 := by omega
    refine ⟨mu, ?_, hR⟩
    simp only [f4_leastBrake_12, if_pos (show (9 : Int32) < nI 10 by decide)]
    rfl
  | succ d ih =>
    intro b fuel mu hd hb hf hR
    obtain ⟨m, rfl⟩ : ∃ m, fuel = m + 1 := ⟨fuel - 1, by omega⟩
    have h9 : ¬ (9 : Int32) < nI b := by rw [show (9 : Int32) = nI 9 from rfl, n_lt (by omega) (by omega)]; omega
    obtain ⟨iW, a2, c1⟩ := al_c hR hx (sml_n (k := b) (M := 9) (by omega))
    have hR2 : Rel (s1 (s1 mu (1 + 20) a2) 1 (alW x (nI b) v1).2) v0 v1 v3 v4 v5 v6 := rel_t (rel_m hR (by omega)) iW
    have z1 : s1 (s1 mu (1 + 20) a2) 1 (alW x (nI b) v1).2 1 = (alW x (nI b) v1).2 := s1_k
    obtain ⟨mu', e1, e2⟩ := ih (b + 1) m _ (by omega) (by omega) (by omega) hR2
    have eU : lbU (lbG x v1) (d + 1) b = if lbG x v1 b = true then nI b else lbU (lbG x v1) d (b + 1) := rfl
    rw [eU]
    unfold lbG at *
    have e0 : f4_leastBrake_12 (m + 1) x (nI b) mu = (if (alW x (nI b) v1).2 (90 + 9 * 0 + 0) = 2 then (if (alW x (nI b) v1).2 (90 + 9 * 0 + 6) = x then some (0, nI b, s1 (s1 mu (1 + 20) a2) 1 (alW x (nI b) v1).2) else f4_leastBrake_12 m x (nI (b + 1)) (s1 (s1 mu (1 + 20) a2) 1 (alW x (nI b) v1).2)) else f4_leastBrake_12 m x (nI (b + 1)) (s1 (s1 mu (1 + 20) a2) 1 (alW x (nI b) v1).2)) := by
      simp (disch := omega) only [f4_leastBrake_12, f4_leastBrake_53, if_neg h9, c1, ob, gdc0, cl0, z1, ad_1]
    rw [e0]
    by_cases q1 : (alW x (nI b) v1).2 (90 + 9 * 0 + 0) = 2
    · rw [if_pos q1]
      by_cases q2 : (alW x (nI b) v1).2 (90 + 9 * 0 + 6) = x
      · rw [if_pos q2, if_pos (decide_eq_true ⟨q1, q2⟩)]
        exact ⟨_, rfl, hR2⟩
      · rw [if_neg q2, if_neg (fun q => q2 (of_decide_eq_true q).2)]
        exact ⟨mu', e1, e2⟩
    · rw [if_neg q1, if_neg (fun q => q1 (of_decide_eq_true q).1)]
      exact ⟨mu', e1, e2⟩
theorem lm_s {v0 v1 : Nat → Int32} {x : Int32} (hI : Inv v1) (hW : ∀ b, b ≤ 9 → Inv (alW x (nI b) v1).2) (hx : sml x 20) : ∀ b fuel v2 v7 v8, b ≤ 9 → b + 1 < fuel →
    ∃ v2' v7' v8', f5_leastBrake_29 fuel x (lbU (lbG x v1) (9 - b) (b + 1)) (nI b) v0 v1 v2 v7 v8 = some (lbU (lbG x v1) 10 0, v0, v1, v2', v7', v8') := by
  have body : ∀ b m v2 v7 v8, b ≤ 9 → ∃ v2' v7' v8', f5_leastBrake_29 (m + 1) x (lbU (lbG x v1) (9 - b) (b + 1)) (nI b) v0 v1 v2 v7 v8 = f5_leastBrake_29 m x (lbU (lbG x v1) (9 - b + 1) b) (nI b + (-1)) v0 v1 v2' v7' v8' := by
    intro b m v2 v7 v8 hb
    have h0 := nI_n0 (show b < 2 ^ 31 by omega)
    obtain ⟨b2, b7, b8, m1⟩ := al_m (v2 := v2) (v7 := v7) (v8 := v8) (what := 0) hI (hW b hb) hx (sml_n (k := b) (M := 9) hb)
    obtain ⟨c2, c7, c8, m2⟩ := al_m (v2 := b2) (v7 := b7) (v8 := b8) (what := 2) hI (hW b hb) hx (sml_n (k := b) (M := 9) hb)
    rw [if_pos rfl] at m1
    rw [if_neg n20, if_neg (show ¬ (2 : Int32) = 1 by decide), if_pos rfl] at m2
    have eU : lbU (lbG x v1) (9 - b + 1) b = if lbG x v1 b = true then nI b else lbU (lbG x v1) (9 - b) (b + 1) := rfl
    rw [eU]
    by_cases q1 : (alW x (nI b) v1).2 (90 + 9 * 0 + 0) = 2
    · by_cases q2 : (alW x (nI b) v1).2 (90 + 9 * 0 + 6) = x
      · rw [if_pos (show lbG x v1 b = true from decide_eq_true ⟨q1, q2⟩)]
        refine ⟨c2, c7, c8, ?_⟩
        simp only [f5_leastBrake_29, f5_leastBrake_60, if_neg h0, m1, ob, if_pos q1, m2, if_pos q2]
      · rw [if_neg (fun q : lbG x v1 b = true => q2 (of_decide_eq_true q).2)]
        refine ⟨c2, c7, c8, ?_⟩
        simp only [f5_leastBrake_29, f5_leastBrake_60, f5_leastBrake_59, if_neg h0, m1, ob, if_pos q1, m2, if_neg q2]
    · rw [if_neg (fun q : lbG x v1 b = true => q1 (of_decide_eq_true q).1)]
      refine ⟨b2, b7, b8, ?_⟩
      simp only [f5_leastBrake_29, f5_leastBrake_60, f5_leastBrake_59, if_neg h0, m1, ob, if_neg q1]
  intro b
  induction b with
  | zero =>
    intro fuel v2 v7 v8 hb hf
    obtain ⟨m, rfl⟩ : ∃ m, fuel = m + 1 + 1 := ⟨fuel - 2, by omega⟩
    obtain ⟨c2, c7, c8, e⟩ := body 0 (m + 1) v2 v7 v8 hb
    refine ⟨c2, c7, c8, Eq.trans e ?_⟩
    simp only [f5_leastBrake_29, if_pos (show nI 0 + (-1) < 0 by decide)]
  | succ b ih =>
    intro fuel v2 v7 v8 hb hf
    obtain ⟨m, rfl⟩ : ∃ m, fuel = m + 1 := ⟨fuel - 1, by omega⟩
    obtain ⟨c2, c7, c8, e⟩ := body (b + 1) m v2 v7 v8 hb
    obtain ⟨d2, d7, d8, e2⟩ := ih m c2 c7 c8 (by omega) (by omega)
    refine ⟨d2, d7, d8, Eq.trans e ?_⟩
    rw [am_1 (by omega), show 9 - (b + 1) + 1 = 9 - b by omega]
    exact e2
theorem q_leastBrake {mu : Nat → Nat → Int32} {v0 v1 v2 v3 v4 v5 v6 v7 v8 : Nat → Int32} (x : Int32) (h : Rel mu v0 v1 v3 v4 v5 v6) :
    ∃ t r v0' v2' v7' v8', f4_leastBrake_0 x mu = some t ∧ f5_leastBrake_0 x v0 v1 v2 v7 v8 = some (r, v0', v1, v2', v7', v8') ∧ Rel t.2.2 v0' v1 v3 v4 v5 v6 ∧
      (t.1 = 0 ∧ v0' 8 = 0 ∧ t.2.1 = r ∨ t.1 = 2 ∧ v0' 8 = 1) := by
  have hR := h
  obtain ⟨h1, h2, h3, h4, h5⟩ := h
  have hI : Inv v1 := h1 ▸ h2 0 (by omega)
  unfold f4_leastBrake_0 f5_leastBrake_0 f5_leastBrake_16
  rw [iw_s, ob, in_s, ob]
  by_cases hx : 0 ≤ x ∧ x ≤ 20
  · rw [b01_t hx, if_neg n10, if_neg n10, rf_0, ob, if_pos rfl]
    obtain ⟨mu', c1, c2⟩ := lc_s (sml_20 hx) 10 0 fu mu rfl (by omega) (by rw [fu_eq]; omega) (rel_8 (x := 0) hR)
    obtain ⟨b2, b7, b8, m1⟩ := lm_s (v0 := upd v0 8 0) hI (fun b hb => (al_c hR (sml_20 hx) (sml_n (k := b) (M := 9) hb)).1) (sml_20 hx) 9 fu v2 v7 v8 (by omega) (by rw [fu_eq]; omega)
    exact ⟨_, _, _, _, _, _, c1, m1, c2, Or.inl ⟨rfl, u8 v0 0, rfl⟩⟩
  · rw [b01_f hx, if_pos rfl, if_pos rfl, rf_1, ob, if_neg n10]
    exact ⟨_, _, _, _, _, _, rfl, rfl, rel_8 hR, Or.inr ⟨rfl, u8 v0 1⟩⟩
