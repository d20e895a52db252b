/-! execute -/
theorem oe_n {v v6 : Nat → Int32} {L e : Nat} (h : TC v v6 L) (he : e < L) (hs : tN v6 L e ≠ 59) : f2_isOrderEnd_0 v (nI e) = some 0 := by
  obtain ⟨t1, t2, t3, t4⟩ := tn_s h e
  have hL := h.1
  have s1 := sg_s h.1 h.2.1 h.2.2.1 h.2.2.2 (i := e) (by omega)
  rw [t1] at s1
  unfold f2_isOrderEnd_0 f2_isOrderEnd_23
  rw [if_neg (by rw [h.2.1, n_eq (by omega) (by omega)]; omega), s1, ob, if_neg (show ¬ nI (tN v6 L e) = 59 from fun r => hs ((n_eq (b := 59) (by omega) (by omega)).mp r)), gz_0]
theorem oe_y {v v6 : Nat → Int32} {L e : Nat} (h : TC v v6 L) (he : e = L ∨ e < L ∧ tN v6 L e = 59) : f2_isOrderEnd_0 v (nI e) = some 1 := by
  have hL := h.1
  unfold f2_isOrderEnd_0 f2_isOrderEnd_18 f2_isOrderEnd_23
  rcases he with rfl | ⟨he, hs⟩
  · rw [if_pos h.2.1.symm, gz_1]
  · obtain ⟨t1, t2, t3, t4⟩ := tn_s h e
    have s1 := sg_s h.1 h.2.1 h.2.2.1 h.2.2.2 (i := e) (by omega)
    rw [t1, hs] at s1
    rw [s1, ob, if_pos (show nI 59 = 59 from rfl), gz_1, ite_self]
theorem sc_e {mu : Nat → Nat → Int32} {v6 : Nat → Int32} {L p q : Nat} {x : Int32} (h : TC (mu 12) v6 L) (hq : q ≤ L) (hn : noS v6 L p q) : ∀ (k e f : Nat), q - e = k → p ≤ e → e ≤ q →
    f4_execute_27 (f + k) x (nI p) (nI e) mu = f4_execute_27 f x (nI p) (nI q) mu := by
  intro k
  have hL := h.1
  induction k with
  | zero =>
    intro e f h1 h2 h3
    obtain rfl : e = q := by omega
    rfl
  | succ k ih =>
    intro e f h1 h2 h3
    rw [← ih (e + 1) f (by omega) (by omega) (by omega)]
    show f4_execute_27 (f + k + 1) x (nI p) (nI e) mu = _
    simp only [f4_execute_27]
    rw [if_neg (by rw [h.2.1, n_lt (by omega) (by omega)]; omega), oe_n h (by omega) (hn e h2 (by omega)), ob, if_pos rfl]
    unfold f4_execute_68
    rw [ad_1]
theorem ef_s {mu : Nat → Nat → Int32} {v0 v1 v3 v4 v5 v6 v7 v8 : Nat → Int32} {x : Int32} (h : Rel mu v0 v1 v3 v4 v5 v6) (h8 : v0 8 = 0) :
    ∃ t r v0' v1' v7' v8', f4_execute_74 x mu = some t ∧ f5_execute_83 v6 x v0 v1 v3 v7 v8 = some (r, v0', v1', v3, v7', v8') ∧ Rel t.2.2 v0' v1' v3 v4 v5 v6 ∧ t.1 = 0 ∧ v0' 8 = 0 ∧ t.2.1 = r :=
  ⟨_, _, _, _, _, _, rfl, rfl, rel_text h (upd_n (by omega)) ⟨0, by omega, by rw [s1_k, upd_s]; rfl, upd_s, fun i hi => by omega⟩, rfl, by rw [upd_n (by omega)]; exact h8, rfl⟩
theorem ex_s {v3 v4 v5 v6 : Nat → Int32} {L : Nat} : ∀ (n p e m fm : Nat) (x : Int32) (mu : Nat → Nat → Int32) (v0 v1 v7 v8 : Nat → Int32), L - p < n → n ≤ m → L - p + 3 ≤ fm → p < L → p ≤ e → e ≤ p + 1 → Rel mu v0 v1 v3 v4 v5 v6 → TC (mu 12) v6 L → v0 7 = nI L → v0 11 = nI p → v0 12 = 0 → v0 8 = 0 →
    (∃ M, ∀ k, f2_isComplete_4 (mu 12) (k + M) (nI 0) (nI p) = some 1) →
    ∃ t r v0' v1' v7' v8', f4_execute_27 fm x (nI p) (nI e) mu = some t ∧ f5_execute_34 v6 (m + 1) x 1 v0 v1 v3 v7 v8 = some (r, v0', v1', v3, v7', v8') ∧ Rel t.2.2 v0' v1' v3 v4 v5 v6 ∧ t.1 = 0 ∧ v0' 8 = 0 ∧ t.2.1 = r := by
  intro n
  induction n with
  | zero => intro p e m fm x mu v0 v1 v7 v8 hn; omega
  | succ n ih =>
    intro p e m fm x mu v0 v1 v7 v8 hn hm hfm hp he1 he2 hR hT h7 h11 h12 h8 ⟨M, hM⟩
    have hL := hT.1
    obtain ⟨m, rfl⟩ : ∃ k, m = k + 1 := ⟨m - 1, by omega⟩
    obtain ⟨w, e1, q, d, e2, e3, e4, e5, e6, e7, e8⟩ := ord_s hT h7 h11 h12 (show p ≤ L by omega)
    have comp : ∀ k, f2_isComplete_4 (mu 12) (k + M) (nI d) (nI q) = some 1 := by
      intro k
      rw [← (e7.2 (k + M)).2, show k + M + (q - p) = k + (q - p) + M by omega]
      exact hM _
    have n01 : ¬ (some (0 : Int32) = some 1) := by decide
    rcases e8 with ⟨f1, f2, f3⟩ | ⟨f1, f2, f3, f4, f5, f6, f7⟩
    · exfalso
      have c2 := comp 2
      by_cases hq : q < L
      · rw [show 2 + M = M + 2 by omega, (pt_w hT hq e6 (f3 hq) M).2] at c2
        exact n01 c2
      · obtain rfl : q = L := by omega
        rw [show 2 + M = (M + 1) + 1 by omega, (pt_e hT e6 (M + 1)).2.2 f2] at c2
        exact n01 c2
    · have hend : q = L ∨ q < L ∧ tN v6 L q = 59 := by
        by_cases hq : q < L
        · rcases f4 hq with hs | hd
          · exact Or.inr ⟨hq, hs⟩
          · exfalso
            have c2 := comp 2
            rw [show 2 + M = M + 2 by omega, (pt_w hT hq e6 hd M).2] at c2
            exact n01 c2
        · exact Or.inl (by omega)
      obtain ⟨w2, hw2⟩ : ∃ w2, w2 = upd w 11 (nI (q + 1)) := ⟨_, rfl⟩
      have w13 : w2 13 = nI (tN v6 L p) := by rw [hw2, upd_n (by omega)]; exact f6
      have w3 : w2 3 = v0 3 := by rw [hw2, upd_n (by omega)]; exact e2 3 (by omega)
      have w7 : w2 7 = v0 7 := by rw [hw2, upd_n (by omega)]; exact e2 7 (by omega)
      have w8 : w2 8 = 0 := by rw [hw2, upd_n (by omega), e2 8 (by omega)]; exact h8
      have w11 : w2 11 = nI (q + 1) := by rw [hw2, upd_s]
      have w12 : w2 12 = 0 := by rw [hw2, upd_n (by omega)]; exact f1
      have f7' : oA (mu 12) v6 L p q w2 := by
        unfold oA at f7 ⊢
        rw [hw2, upd_n (show 14 ≠ 11 by omega), upd_n (show 15 ≠ 11 by omega)]
        exact f7
      have hR2 : Rel mu w2 v1 v3 v4 v5 v6 := rel_v0 hR w3 w7
      obtain ⟨b, mu', v1', v7', v8', g1, g2, g3, g4, g5⟩ := pf_s (v7 := v7) (v8 := v8) hR2 hT hp w13 f7'
      have eM : f5_execute_34 v6 (m + 1 + 1) x 1 v0 v1 v3 v7 v8 = if b = 0 then f5_execute_78 v6 (f5_execute_34 v6 (m + 1)) b 0 x w2 v1' v3 v7' v8' else f5_execute_78 v6 (f5_execute_34 v6 (m + 1)) b 1 x w2 v1' v3 v7' v8' := by
        have a0 : f5_execute_34 v6 (m + 1 + 1) x 1 v0 v1 v3 v7 v8 = if (1 : Int32) = 0 then f5_execute_83 v6 x v0 v1 v3 v7 v8 else (if (v0 7) ≤ (v0 11) then (f5_execute_83 v6 x v0 v1 v3 v7 v8) else (Option.bind (f5_order_0 v6 v0) (fun t3 => Option.bind (f5_does_0 (upd t3 11 ((t3 11) + 1)) v1 v7 v8) (fun t4 => if t4.1 = 0 then (f5_execute_78 v6 (f5_execute_34 v6 (m + 1)) t4.1 0 x (upd t3 11 ((t3 11) + 1)) t4.2.1 v3 t4.2.2.1 t4.2.2.2) else (f5_execute_78 v6 (f5_execute_34 v6 (m + 1)) t4.1 1 x (upd t3 11 ((t3 11) + 1)) t4.2.1 v3 t4.2.2.1 t4.2.2.2))))) := rfl
        rw [a0, if_neg n10, if_neg (by rw [h7, h11, n_le (by omega) (by omega)]; omega), e1, ob, e3, ad_1, ← hw2, g2, ob]
      obtain ⟨f, rfl⟩ : ∃ f, fm = f + 1 + (q - e) := ⟨fm - 1 - (q - e), by omega⟩
      have eC : f4_execute_27 (f + 1 + (q - e)) x (nI p) (nI e) mu = if b = 0 then f4_execute_74 x mu' else f4_execute_27 f (x + 1) (nI (q + 1)) (nI (q + 1)) mu' := by
        rw [sc_e hT e5 f5 (q - e) e (f + 1) rfl he1 (by omega)]
        simp only [f4_execute_27]
        rw [if_neg (by rw [hT.2.1, n_lt (by omega) (by omega)]; omega), oe_y hT hend, ob, if_neg n10, g1, ob]
        unfold f4_execute_68
        rw [ad_1]
      rw [eM, eC]
      unfold f5_execute_78
      rcases g5 with rfl | rfl
      · rw [if_pos rfl, if_pos rfl]
        have a0 : f5_execute_34 v6 (m + 1) (x + 0) 0 w2 v1' v3 v7' v8' = f5_execute_83 v6 (x + 0) w2 v1' v3 v7' v8' := if_pos rfl
        rw [a0, Int32.add_zero]
        exact ef_s g3 w8
      · rw [if_neg n10, if_neg n10]
        rcases hend with rfl | ⟨hq, hs⟩
        · obtain ⟨f, rfl⟩ : ∃ k, f = k + 1 := ⟨f - 1, by omega⟩
          have a0 : f5_execute_34 v6 (m + 1) (x + 1) 1 w2 v1' v3 v7' v8' = f5_execute_83 v6 (x + 1) w2 v1' v3 v7' v8' := by
            have a1 : f5_execute_34 v6 (m + 1) (x + 1) 1 w2 v1' v3 v7' v8' = if (1 : Int32) = 0 then f5_execute_83 v6 (x + 1) w2 v1' v3 v7' v8' else (if (w2 7) ≤ (w2 11) then (f5_execute_83 v6 (x + 1) w2 v1' v3 v7' v8') else _) := rfl
            rw [a1, if_neg n10, if_pos (by rw [w7, h7, w11, n_le (by omega) (by omega)]; omega)]
          have a2 : f4_execute_27 (f + 1) (x + 1) (nI (q + 1)) (nI (q + 1)) mu' = f4_execute_74 (x + 1) mu' := by
            simp only [f4_execute_27]
            rw [if_pos (by rw [g4, hT.2.1, n_lt (by omega) (by omega)]; omega)]
          rw [a0, a2]
          exact ef_s g3 w8
        · have hT' : TC (mu' 12) v6 L := by rw [g4]; exact hT
          have P1 : PT (mu 12) d q 0 (q + 1) := pt_1 hT hq e6 (by rw [hs]; exact fin_59 f3) (by omega)
          have comp2 : ∀ k, f2_isComplete_4 (mu' 12) (k + M) (nI 0) (nI (q + 1)) = some 1 := by
            intro k
            rw [g4, ← (P1.2 (k + M)).2, show k + M + (q + 1 - q) = k + 1 + M by omega]
            exact comp _
          by_cases hq1 : q + 1 < L
          · exact ih (q + 1) (q + 1) m f (x + 1) mu' w2 v1' v7' v8' (by omega) (by omega) (by omega) hq1 (by omega) (by omega) g3 hT' (w7.trans h7) w11 w12 w8 ⟨M, comp2⟩
          · exfalso
            have c2 := comp2 1
            obtain rfl : q + 1 = L := by omega
            rw [show 1 + M = M + 1 by omega, (pt_e hT' (d := 0) (by omega) M).2.2 (by unfold fin; omega)] at c2
            exact n01 c2
theorem q_execute {mu : Nat → Nat → Int32} {v0 v1 v3 v4 v5 v6 v7 v8 : Nat → Int32} (h : Rel mu v0 v1 v3 v4 v5 v6) :
    ∃ t r v0' v1' v3' v7' v8', f4_execute_0 mu = some t ∧ f5_execute_0 v6 v0 v1 v3 v7 v8 = some (r, v0', v1', v3', v7', v8') ∧ Rel t.2.2 v0' v1' v3' v4 v5 v6 ∧
      (t.1 = 0 ∧ v0' 8 = 0 ∧ t.2.1 = r ∨ t.1 = 2 ∧ v0' 8 = 1) := by
  obtain ⟨L, hT, h7⟩ := tc_of h.2.2.2.2
  have hL := hT.1
  obtain ⟨b, v', g1, g2, g3⟩ := w0_s hT h7
  have hR : Rel mu v' v1 v3 v4 v5 v6 := rel_v0 h (g2 3 (by omega)) (g2 7 (by omega))
  unfold f4_execute_0 f5_execute_0 f5_execute_13
  rw [g1, ob]
  try dsimp only
  rcases g3 with ⟨rfl, a0, a2, a3, a4⟩ | ⟨rfl, a2, a3⟩
  · rw [a3, ob, if_neg n10, if_neg n10, rf_0, ob, if_pos rfl]
    obtain ⟨mu', v0', v3', p1, p2, p3, p4, p5, p6⟩ := rel_p (rel_8 (x := 0) hR)
    have hp0 : 0 < L := by
      rcases Nat.eq_zero_or_pos L with rfl | hl
      · exfalso
        have c2 := a4 1
        rw [show 1 + 0 + 2 = 2 + 1 by omega, (pt_e hT (d := 0) (by omega) 2).2.2 (by unfold fin; omega)] at c2
        exact absurd c2 (by decide)
      · exact hl
    have e12 : mu' 12 = mu 12 := p5 12 (by omega)
    have hT' : TC (mu' 12) v6 L := by rw [e12]; exact hT
    have z7 : v0' 7 = nI L := by rw [p6 7 (by omega), upd_n (by omega), g2 7 (by omega)]; exact h7
    rw [p1, ob, p2, ob]
    try dsimp only
    obtain ⟨t, r, v0'', v1'', v7'', v8'', k1, k2, k3, k4, k5, k6⟩ := ex_s (L := L) (v3 := v3') (L + 1) 0 1 999 fu 0 mu' (upd v0' 11 0) v1 v7 v8 (by omega) (by omega) (by rw [fu_eq]; omega) hp0 (by omega) (by omega) (rel_v0 p3 (upd_n (by omega)) (upd_n (by omega))) hT' (by rw [upd_n (by omega)]; exact z7) (by rw [upd_s]; rfl) (by rw [upd_n (by omega), p6 12 (by omega), upd_n (by omega)]; exact a0) (by rw [upd_n (by omega), p6 8 (by omega), upd_s]) ⟨L + 2, fun k => by rw [e12]; exact a4 k⟩
    exact ⟨t, r, v0'', v1'', v3', v7'', v8'', k1, k2, k3, Or.inl ⟨k4, k5, k6⟩⟩
  · rw [a3, ob, if_pos rfl, if_pos rfl, rf_1, ob, if_neg n10]
    exact ⟨_, _, _, _, _, _, _, rfl, rfl, rel_8 hR, Or.inr ⟨rfl, u8 v' 1⟩⟩
