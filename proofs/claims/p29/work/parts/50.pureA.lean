/-! the class's row of movers -/
theorem rk_s {w : Nat → Int32} {N c : Nat} (hI : Inv w) (hN : N ≤ 8) (hw : w 162 = nI N) (hc : c < N) : f3_rankOf_0 w (nI c) = some (nI (rk w c N)) := by
  unfold f3_rankOf_0
  refine lp_e (σ := Int32) (L := fun n a j => f3_rankOf_4 w n (nI c) a j) (N := N) (S := fun j => nI (rk w c j)) ?_ ?_ (by rw [fu_eq]; omega)
  · intro n j hj
    simp (disch := omega) only [f3_rankOf_4, f3_rankOf_24, hw, n_le, ad_1, ib_s (c := c) (d := j) (by omega) (by omega) (inv_p hI (by omega)) (inv_p hI (by omega)), ob, b01_0, if_neg (show ¬ N ≤ j by omega)]
    by_cases h : isB w c j = true
    · rw [if_neg (fun q => q h), rk_t h]
    · rw [if_pos h, rk_f (by simpa using h)]
  · intro n
    simp (disch := omega) only [f3_rankOf_4, hw, if_pos (Int32.le_refl _)]
/-- the row of movers, as far as the cars below j are lined up -/
def movI (w : Nat → Int32) (N j : Nat) (v : Nat → Int32) : Prop :=
  ∀ k, k < 8 → (∃ c, c < j ∧ isSt w 1 c = true ∧ rk w c N = k ∧ v k = nI c) ∨ (v k = -1 ∧ ∀ c, c < j → isSt w 1 c = true → rk w c N ≠ k)
theorem lu_s {w v2 : Nat → Int32} {N : Nat} (hI : Inv w) (hN : N ≤ 8) (hw : w 162 = nI N) : ∃ v', f3_lineUp_0 w v2 = some v' ∧ movI w N N v' := by
  have h2 : ∀ v, (∀ i, i < 8 → v i = -1) → ∃ v', f3_lineUp_23 w fu 0 v = some v' ∧ movI w N N v' := by
    intro v hv
    refine lp_p (σ := Nat → Int32) (L := fun n s j => f3_lineUp_23 w n j s) (N := N) (P := fun j s => movI w N j s) (Q := fun a => movI w N N a) ?_ ?_ N fu 0 v rfl (by omega) ?_ (by rw [fu_eq]; omega)
    · intro n s j hj hs
      have hrk : rk w j N ≤ N := Nat.le_trans rk_nr' nr_le
      have e0 : f3_lineUp_23 w (n + 1) (nI j) s = (if w (90 + 9 * j + 0) = 1 then (if 8 ≤ nI (rk w j N) then f3_lineUp_63 w (f3_lineUp_23 w n) (nI j) s else gd (nI (rk w j N)) 8 (f3_lineUp_63 w (f3_lineUp_23 w n) (nI j) (upd s (Int32.toNatClampNeg (nI (rk w j N))) (nI j)))) else f3_lineUp_63 w (f3_lineUp_23 w n) (nI j) s) := by
        simp (disch := omega) only [f3_lineUp_23, hw, n_le, if_neg (show ¬ N ≤ j by omega), rk_s hI hN hw hj, ob, gd_n, cl_n]
      show ∃ s', movI w N (j + 1) s' ∧ f3_lineUp_23 w (n + 1) (nI j) s = f3_lineUp_23 w n (nI (j + 1)) s'
      rw [e0]
      by_cases hr : w (90 + 9 * j + 0) = 1
      · have hlt := rk_nr (w := w) (c := j) (j := N) hj (st_i.mpr hr)
        have hn8 := nr_le (w := w) (j := N)
        have h8 : ¬ (8 : Int32) ≤ nI (rk w j N) := by rw [show (8 : Int32) = nI 8 from rfl, n_le (by omega) (by omega)]; omega
        refine ⟨upd s (rk w j N) (nI j), ?_, ?_⟩
        · intro k hk
          by_cases e : k = rk w j N
          · subst e
            exact Or.inl ⟨j, by omega, st_i.mpr hr, rfl, upd_s⟩
          · rcases hs k hk with ⟨c, hc, hr2, hrk2, hv2⟩ | ⟨hv2, hno⟩
            · exact Or.inl ⟨c, by omega, hr2, hrk2, by rw [upd_n e]; exact hv2⟩
            · refine Or.inr ⟨by rw [upd_n e]; exact hv2, fun c hc hr2 => ?_⟩
              by_cases ec : c = j
              · subst ec; exact fun q => e q.symm
              · exact hno c (by omega) hr2
        · rw [if_pos hr, if_neg h8]
          unfold f3_lineUp_63
          simp (disch := omega) only [gd_n, cl_n, ad_1]
      · refine ⟨s, ?_, ?_⟩
        · intro k hk
          rcases hs k hk with ⟨c, hc, hr2, hrk2, hv2⟩ | ⟨hv2, hno⟩
          · exact Or.inl ⟨c, by omega, hr2, hrk2, hv2⟩
          · refine Or.inr ⟨hv2, fun c hc hr2 => ?_⟩
            by_cases ec : c = j
            · subst ec; exact absurd (st_i.mp hr2) hr
            · exact hno c (by omega) hr2
        · rw [if_neg hr]
          unfold f3_lineUp_63
          rw [ad_1]
    · intro n s hs
      refine ⟨s, ?_, hs⟩
      show f3_lineUp_23 w (n + 1) (nI N) s = some s
      simp (disch := omega) only [f3_lineUp_23, hw, if_pos (Int32.le_refl _)]
    · intro k hk
      exact Or.inr ⟨hv k hk, fun c hc => by omega⟩
  unfold f3_lineUp_0
  refine lp_p (σ := Nat → Int32) (L := fun n s j => f3_lineUp_2 w n j s) (N := 8) (P := fun j s => ∀ i, i < j → s i = -1) (Q := fun a => movI w N N a) ?_ ?_ 8 fu 0 v2 rfl (by omega) (fun i hi => by omega) (by rw [fu_eq]; omega)
  · intro n s j hj hs
    have h8 : ¬ (8 : Int32) ≤ nI j := by rw [show (8 : Int32) = nI 8 from rfl, n_le (by omega) (by omega)]; omega
    refine ⟨upd s j (-1), ?_, ?_⟩
    · intro i hi
      by_cases e : i = j
      · subst e; exact upd_s
      · rw [upd_n e]; exact hs i (by omega)
    · show f3_lineUp_2 w (n + 1) (nI j) s = _
      simp (disch := omega) only [f3_lineUp_2, if_neg h8, gd_n, cl_n, ad_1]
  · intro n s hs
    obtain ⟨v', e1, e2⟩ := h2 s hs
    refine ⟨v', ?_, e2⟩
    show f3_lineUp_2 w (n + 1) (nI 8) s = _
    simp only [f3_lineUp_2, if_pos (show (8 : Int32) ≤ nI 8 by decide), e1]
theorem mov_turn {w u v : Nat → Int32} {N : Nat} (hN : N ≤ 8) (hu : turnI w N u) (hv : movI w N N v) :
    (∀ k, k < nr w N → ∃ c, c < N ∧ isSt w 1 c = true ∧ u k = nI c ∧ v k = nI c ∧ rk w c N = k) ∧ (∀ k, nr w N ≤ k → k < 8 → v k = -1) := by
  have hn := nr_le (w := w) (j := N)
  constructor
  · intro k hk
    obtain ⟨c, hc, hr, hku, hrk⟩ := hu k hk
    refine ⟨c, hc, hr, hku, ?_, hrk⟩
    rcases hv k (by omega) with ⟨c', hc', hr', hrk', hkv⟩ | ⟨_, hno⟩
    · rw [hkv, rk_inj hc hc' hr hr' (hrk.trans hrk'.symm)]
    · exact absurd hrk (hno c hc hr)
  · intro k hk hk8
    rcases hv k hk8 with ⟨c', hc', hr', hrk', hkv⟩ | ⟨h, _⟩
    · have := rk_nr hc' hr'; omega
    · exact h
/-! a tick -/
theorem hasM_s {w : Nat → Int32} {N : Nat} (hN : N ≤ 8) (hw : w 162 = nI N) : f3_hasCar_0 w (-1) = some 0 := by
  rw [hasCar_s hN hw, b01_f (fun q => absurd q.1 (by decide))]
theorem hasC_s {w : Nat → Int32} {N c : Nat} (hN : N ≤ 8) (hw : w 162 = nI N) (hc : c < N) : f3_hasCar_0 w (nI c) = some 1 := by
  rw [hasCar_s hN hw, b01_t (k_car hN hc)]
/-- the moves of a tick, both: from the car of turn k on -/
theorem tm_s {x1 : Int32} {r : Nat → Int32} {v2 v7 v8 : Nat → Int32} {N n : Nat} (hN : N ≤ 8) (hn : n ≤ 8)
    (h1 : ∀ k, k < n → ∃ c, c < N ∧ isSt r 1 c = true ∧ v7 k = nI c ∧ v2 k = nI c ∧ rk r c N = k) (h2 : ∀ k, n ≤ k → k < 8 → v2 k = -1) :
    ∀ d k fuel fuel' w, n - k = d → k ≤ n → 9 ≤ fuel + k → 9 ≤ fuel' + k → Inv w → w 162 = nI N →
      (∀ j, k ≤ j → j < n → ∀ c, c < N → v7 j = nI c → w (90 + 9 * c + 0) = 1) →
      ∃ w', Inv w' ∧ w' 162 = nI N ∧ f3_passTick_22 fuel x1 (nI k) w v2 = f3_passTick_59 fu x1 0 w' v2 ∧ f5_tick_65 fuel' (nI n) (nI k) w v7 v8 = f5_tick_88 fu 0 w' v7 v8 := by
  intro d
  induction d with
  | zero =>
    intro k fuel fuel' w hd hk hf hf' hI hw hr
    obtain rfl : k = n := by omega
    refine ⟨w, hI, hw, ?_, ?_⟩
    · have hx : ∀ e j fuel, 8 - j = e → k ≤ j → j ≤ 8 → e < fuel → f3_passTick_22 fuel x1 (nI j) w v2 = f3_passTick_59 fu x1 0 w v2 := by
        intro e
        induction e with
        | zero =>
          intro j fuel he hj hj8 hf
          obtain ⟨m, rfl⟩ : ∃ m, fuel = m + 1 := ⟨fuel - 1, by omega⟩
          obtain rfl : j = 8 := by omega
          simp only [f3_passTick_22, if_pos (show (8 : Int32) ≤ nI 8 by decide)]
        | succ e ih =>
          intro j fuel he hj hj8 hf
          obtain ⟨m, rfl⟩ : ∃ m, fuel = m + 1 := ⟨fuel - 1, by omega⟩
          have h8 : ¬ (8 : Int32) ≤ nI j := by rw [show (8 : Int32) = nI 8 from rfl, n_le (by omega) (by omega)]; omega
          rw [← ih (j + 1) m (by omega) (by omega) (by omega) (by omega)]
          simp (disch := omega) only [f3_passTick_22, f3_passTick_51, if_neg h8, gd_n, cl_n, h2 j hj (by omega), hasM_s hN hw, ob, ad_1]
          rfl
      exact hx (8 - k) k fuel rfl (by omega) hn (by omega)
    · obtain ⟨m, rfl⟩ : ∃ m, fuel' = m + 1 := ⟨fuel' - 1, by omega⟩
      simp only [f5_tick_65, if_pos (Int32.le_refl _)]
  | succ d ih =>
    intro k fuel fuel' w hd hk hf hf' hI hw hr
    obtain ⟨m, rfl⟩ : ∃ m, fuel = m + 1 := ⟨fuel - 1, by omega⟩
    obtain ⟨m', rfl⟩ : ∃ m, fuel' = m + 1 := ⟨fuel' - 1, by omega⟩
    obtain ⟨c, hc, hs, e7, e2, hrk⟩ := h1 k (by omega)
    have h0 := hr k (by omega) (by omega) c hc e7
    obtain ⟨w', q1, q2, q3, q4, q5⟩ := mv_s hI hN hw hc h0
    obtain ⟨w'', p1, p2, p3, p4⟩ := ih (k + 1) m m' w' (by omega) (by omega) (by omega) (by omega) q3 q4 (fun j hj hj2 c' hc' e7' => by
      obtain ⟨c2, hc2, hs2, e72, e22, hrk2⟩ := h1 j hj2
      obtain rfl : c' = c2 := by rw [e7'] at e72; exact (n_eq (by omega) (by omega)).mp e72
      have hne : c' ≠ c := by intro e; subst e; omega
      rw [q5 c' (by omega) hne]
      exact hr j (by omega) hj2 c' hc' e7')
    refine ⟨w'', p1, p2, ?_, ?_⟩
    · rw [← p3]
      have h8 : ¬ (8 : Int32) ≤ nI k := by rw [show (8 : Int32) = nI 8 from rfl, n_le (by omega) (by omega)]; omega
      have hne : ¬ (1 : Int32) = 0 := by decide
      simp (disch := omega) only [f3_passTick_22, f3_passTick_51, if_neg h8, gd_n, cl_n, e2, hasC_s hN hw hc, ob, if_neg hne, q1, ad_1]
    · rw [← p4]
      have hnk : ¬ nI n ≤ nI k := by rw [n_le (by omega) (by omega)]; omega
      simp (disch := omega) only [f5_tick_65, if_neg hnk, gd_n, cl_n, e7, q2, ob, ad_1]
