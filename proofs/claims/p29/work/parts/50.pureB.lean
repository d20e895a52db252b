/-! a tick: all of it -/
theorem lp_k {σ α : Type} {L : Nat → σ → Int32 → Option α} {N : Nat} {P : Nat → σ → Prop}
    (step : ∀ n s j, j < N → P j s → ∃ s', P (j + 1) s' ∧ L (n + 1) s (nI j) = L n s' (nI (j + 1))) :
    ∀ d fuel j s, N - j = d → j ≤ N → P j s → N - j < fuel → ∃ s' n, P N s' ∧ L fuel s (nI j) = L (n + 1) s' (nI N) := by
  intro d
  induction d with
  | zero =>
    intro fuel j s hd hj hP hf
    obtain ⟨n, rfl⟩ : ∃ n, fuel = n + 1 := ⟨fuel - 1, by omega⟩
    obtain rfl : j = N := by omega
    exact ⟨s, n, hP, rfl⟩
  | succ d ih =>
    intro fuel j s hd hj hP hf
    obtain ⟨n, rfl⟩ : ∃ n, fuel = n + 1 := ⟨fuel - 1, by omega⟩
    obtain ⟨s', h1, h2⟩ := step n s j (by omega) hP
    rw [h2]
    exact ih n (j + 1) s' (by omega) (by omega) h1 (by omega)
theorem nar_0 : vp_nar .boolean 0 = 0 := by decide
theorem nar_1 : vp_nar .boolean 1 = 1 := by decide
theorem t19_s {x1 : Int32} {w v7 v8 : Nat → Int32} : ∃ v8', (∀ i, i < 8 → v8' i = 0) ∧ f5_tick_19 fu x1 0 w v7 v8 = f5_tick_40 fu x1 0 w v7 v8' := by
  obtain ⟨s', n, h1, h2⟩ := lp_k (σ := Nat → Int32) (L := fun n s j => f5_tick_19 n x1 j w v7 s) (N := 8) (P := fun j s => ∀ i, i < j → s i = 0) (by
    intro n s j hj hs
    have h8 : ¬ (8 : Int32) ≤ nI j := by rw [show (8 : Int32) = nI 8 from rfl, n_le (by omega) (by omega)]; omega
    refine ⟨upd s j 0, ?_, ?_⟩
    · intro i hi
      by_cases e : i = j
      · subst e; exact upd_s
      · rw [upd_n e]; exact hs i (by omega)
    · show f5_tick_19 (n + 1) x1 (nI j) w v7 s = _
      simp (disch := omega) only [f5_tick_19, if_neg h8, gd_n, cl_n, ad_1, nar_0]) 8 fu 0 v8 rfl (by omega) (fun i hi => by omega) (by rw [fu_eq]; omega)
  refine ⟨s', h1, ?_⟩
  refine Eq.trans h2 ?_
  show f5_tick_19 (n + 1) x1 (nI 8) w v7 s' = _
  simp only [f5_tick_19, if_pos (show (8 : Int32) ≤ nI 8 by decide)]
theorem t40_s {w v7 v8 : Nat → Int32} {n N : Nat} (hn : n ≤ 8) (hN : N ≤ 8) (h7 : ∀ k, k < n → ∃ c, c < N ∧ v7 k = nI c) (h8 : ∀ i, i < 8 → v8 i = 0) :
    ∃ v8', (∀ i, i < 8 → (v8' i = 0 ↔ ∀ k, k < n → v7 k ≠ nI i)) ∧ f5_tick_40 fu (nI n) 0 w v7 v8 = f5_tick_65 fu (nI n) 0 w v7 v8' := by
  obtain ⟨s', m, h1, h2⟩ := lp_k (σ := Nat → Int32) (L := fun m s j => f5_tick_40 m (nI n) j w v7 s) (N := n) (P := fun j s => ∀ i, i < 8 → (s i = 0 ↔ ∀ k, k < j → v7 k ≠ nI i)) (by
    intro m s j hj hs
    obtain ⟨c, hc, e7⟩ := h7 j hj
    have hnj : ¬ nI n ≤ nI j := by rw [n_le (by omega) (by omega)]; omega
    refine ⟨upd s c 1, ?_, ?_⟩
    · intro i hi
      by_cases e : i = c
      · subst e
        rw [upd_s]
        exact ⟨fun q => absurd q (by decide), fun q => absurd e7 (q j (by omega))⟩
      · rw [upd_n e, hs i hi]
        refine ⟨fun q k hk => ?_, fun q k hk => q k (by omega)⟩
        by_cases ek : k = j
        · subst ek
          rw [e7]
          exact fun x => e ((n_eq (by omega) (by omega)).mp x).symm
        · exact q k (by omega)
    · show f5_tick_40 (m + 1) (nI n) (nI j) w v7 s = _
      simp (disch := omega) only [f5_tick_40, if_neg hnj, gd_n, cl_n, e7, ad_1, nar_1]) n fu 0 v8 rfl (by omega) (fun i hi => ⟨fun _ k hk => by omega, fun _ => h8 i hi⟩) (by rw [fu_eq]; omega)
  refine ⟨s', h1, ?_⟩
  refine Eq.trans h2 ?_
  show f5_tick_40 (m + 1) (nI n) (nI n) w v7 s' = _
  simp only [f5_tick_40, if_pos (Int32.le_refl _)]
theorem te_s {x1 : Int32} {v2 v7 v8 : Nat → Int32} {N : Nat} {R : Nat → Bool} (hN : N ≤ 8)
    (hb : ∀ c, c < N → (x1 &&& (1 <<< (nI c &&& 31)) = 0 ↔ R c = false)) (h8 : ∀ c, c < N → (v8 c = 0 ↔ R c = false)) :
    ∀ d c fuel fuel' w, N - c = d → c ≤ N → d < fuel → d < fuel' → Inv w → w 162 = nI N →
      ∃ w', Inv w' ∧ w' 162 = nI N ∧ f3_passTick_59 fuel x1 (nI c) w v2 = some (w', v2) ∧ f5_tick_88 fuel' (nI c) w v7 v8 = some (w', v7, v8) := by
  intro d
  induction d with
  | zero =>
    intro c fuel fuel' w hd hc hf hf' hI hw
    obtain ⟨m, rfl⟩ : ∃ m, fuel = m + 1 := ⟨fuel - 1, by omega⟩
    obtain ⟨m', rfl⟩ : ∃ m, fuel' = m + 1 := ⟨fuel' - 1, by omega⟩
    obtain rfl : c = N := by omega
    refine ⟨w, hI, hw, ?_, ?_⟩
    · simp (disch := omega) only [f3_passTick_59, hw, if_pos (Int32.le_refl _)]
    · simp (disch := omega) only [f5_tick_88, gdm162, cl162, hw, if_pos (Int32.le_refl _)]
  | succ d ih =>
    intro c fuel fuel' w hd hc hf hf' hI hw
    obtain ⟨m, rfl⟩ : ∃ m, fuel = m + 1 := ⟨fuel - 1, by omega⟩
    obtain ⟨m', rfl⟩ : ∃ m, fuel' = m + 1 := ⟨fuel' - 1, by omega⟩
    obtain ⟨w', q1, q2, q3, q4⟩ := en_s (n := m) (n' := m') (v2 := v2) (v7 := v7) (R c) hI hN hw (show c < N by omega) (hb c (by omega)) (h8 c (by omega))
    rw [q3, q4]
    exact ih (c + 1) m m' w' (by omega) (by omega) (by omega) (by omega) q1 q2
theorem ti_s {w v2 v7 v8 : Nat → Int32} {N : Nat} (hI : Inv w) (hN : N ≤ 8) (hw : w 162 = nI N) :
    ∃ w' v2' v7' v8', f3_passTick_0 w v2 = some (w', v2') ∧ f5_tick_0 w v7 v8 = some (w', v7', v8') ∧ Inv w' ∧ w' 162 = nI N := by
  obtain ⟨w1, hw1⟩ : ∃ w1, w1 = upd w 163 (w 163 + 1) := ⟨_, rfl⟩
  have hI1 : Inv w1 := by rw [hw1]; exact inv_upd hI (by omega)
  have hN1 : w1 162 = nI N := by rw [hw1, upd_n (by omega)]; exact hw
  obtain ⟨a2, l1, l2⟩ := lu_s (v2 := v2) hI1 hN hN1
  obtain ⟨a7, n1, n2⟩ := no_s (v7 := v7) hN hN1
  obtain ⟨m1, m2⟩ := mov_turn hN n2 l2
  have hn := nr_le (w := w1) (j := N)
  obtain ⟨b8, b1, b2⟩ := t19_s (x1 := nI (nr w1 N)) (w := w1) (v7 := a7) (v8 := v8)
  obtain ⟨d8, d1, d2⟩ := t40_s (w := w1) (v7 := a7) (v8 := b8) (n := nr w1 N) (by omega) hN (fun k hk => by
    obtain ⟨c, hc, hr, e7, e2, hrk⟩ := m1 k hk
    exact ⟨c, hc, e7⟩) b1
  obtain ⟨w2, p1, p2, p3, p4⟩ := tm_s (x1 := mkN (isSt w1 1) N) (r := w1) (v2 := a2) (v7 := a7) (v8 := d8) hN (by omega : nr w1 N ≤ 8) m1 m2 (nr w1 N) 0 fu fu w1 rfl (by omega) (by rw [fu_eq]; omega) (by rw [fu_eq]; omega) hI1 hN1 (fun j _ hj c hc e7 => by
    obtain ⟨c', hc', hr, e7', e2, hrk⟩ := m1 j hj
    rw [e7'] at e7
    obtain rfl := (n_eq (by omega) (by omega)).mp e7
    exact st_i.mp hr)
  obtain ⟨w3, r1, r2, r3, r4⟩ := te_s (x1 := mkN (isSt w1 1) N) (v2 := a2) (v7 := a7) (v8 := d8) (R := isSt w1 1) hN (fun c hc => by
    have := mk_bit (P := isSt w1 1) (c := c) (by omega) hN
    refine Iff.trans this ⟨fun q => ?_, fun q r => ?_⟩
    · cases h : isSt w1 1 c with
      | false => rfl
      | true => exact absurd ⟨hc, h⟩ q
    · rw [q] at r; exact absurd r.2 (by decide)) (fun c hc => by
    rw [d1 c (by omega)]
    constructor
    · intro q
      cases h : isSt w1 1 c with
      | false => rfl
      | true =>
        obtain ⟨c', hc', hr, e7, e2, hrk⟩ := m1 (rk w1 c N) (rk_nr hc h)
        obtain rfl := rk_inj hc' hc hr h hrk
        exact absurd e7 (q _ (rk_nr hc h))
    · intro q k hk e
      obtain ⟨c', hc', hr, e7, e2, hrk⟩ := m1 k hk
      rw [e7] at e
      obtain rfl := (n_eq (by omega) (by omega)).mp e
      rw [q] at hr
      exact absurd hr (by decide)) N 0 fu fu w2 rfl (by omega) (by rw [fu_eq]; omega) (by rw [fu_eq]; omega) p1 p2
  refine ⟨w3, a2, a7, d8, ?_, ?_, r1, r2⟩
  · unfold f3_passTick_0
    rw [← hw1, cis_s hN hN1, ob, l1, ob]
    exact p3.trans r3
  · unfold f5_tick_0
    simp (disch := omega) only [gdm163, cl163]
    rw [← hw1, n1, ob]
    exact b2.trans (d2.trans (p4.trans r4))
theorem ts_s {w v2 v7 v8 : Nat → Int32} {N T : Nat} (hI : Inv w) (hN : N ≤ 8) (hw : w 162 = nI N) (hT : T < 999) :
    ∃ w' v2' v7' v8', f3_passTicks_0 (nI T) w v2 = some (w', v2') ∧ f5_runs_0 (nI T) w v7 v8 = some (w' 165 - w 165, w', v7', v8') ∧ Inv w' ∧ w' 162 = nI N := by
  have key : ∀ d t fuel fuel' w v2 v7 v8, T - t = d → t ≤ T → d < fuel → d < fuel' → Inv w → w 162 = nI N → ∀ x : Int32,
      ∃ w' v2' v7' v8', f3_passTicks_2 fuel (nI T) (nI t) w v2 = some (w', v2') ∧ f5_runs_11 fuel' (nI T) x (nI t) w v7 v8 = some (w' 165 - x, w', v7', v8') ∧ Inv w' ∧ w' 162 = nI N := by
    intro d
    induction d with
    | zero =>
      intro t fuel fuel' w v2 v7 v8 hd ht hf hf' hI hw x
      obtain ⟨m, rfl⟩ : ∃ m, fuel = m + 1 := ⟨fuel - 1, by omega⟩
      obtain ⟨m', rfl⟩ : ∃ m, fuel' = m + 1 := ⟨fuel' - 1, by omega⟩
      obtain rfl : t = T := by omega
      refine ⟨w, v2, v7, v8, ?_, ?_, hI, hw⟩
      · simp (disch := omega) only [f3_passTicks_2, if_pos (Int32.le_refl _)]
      · simp (disch := omega) only [f5_runs_11, gdm165, cl165, if_pos (Int32.le_refl _)]
    | succ d ih =>
      intro t fuel fuel' w v2 v7 v8 hd ht hf hf' hI hw x
      obtain ⟨m, rfl⟩ : ∃ m, fuel = m + 1 := ⟨fuel - 1, by omega⟩
      obtain ⟨m', rfl⟩ : ∃ m, fuel' = m + 1 := ⟨fuel' - 1, by omega⟩
      obtain ⟨w1, a2, a7, a8, q1, q2, q3, q4⟩ := ti_s (v2 := v2) (v7 := v7) (v8 := v8) hI hN hw
      obtain ⟨w2, b2, b7, b8, p1, p2, p3, p4⟩ := ih (t + 1) m m' w1 a2 a7 a8 (by omega) (by omega) (by omega) (by omega) q3 q4 x
      have hnt : ¬ nI T ≤ nI t := by rw [n_le (by omega) (by omega)]; omega
      refine ⟨w2, b2, b7, b8, ?_, ?_, p3, p4⟩
      · rw [← p1]
        simp (disch := omega) only [f3_passTicks_2, if_neg hnt, q1, ob, ad_1]
      · rw [← p2]
        simp (disch := omega) only [f5_runs_11, if_neg hnt, q2, ob, ad_1]
  obtain ⟨w', a2, a7, a8, h1, h2, h3, h4⟩ := key T 0 fu fu w v2 v7 v8 rfl (by omega) (by rw [fu_eq]; omega) (by rw [fu_eq]; omega) hI hw (w 165)
  refine ⟨w', a2, a7, a8, ?_, ?_, h3, h4⟩
  · unfold f3_passTicks_0
    exact h1
  · unfold f5_runs_0
    simp (disch := omega) only [gdm165, cl165]
    exact h2
