/-! a car alone -/
def tk (w : Nat → Int32) : Nat → Int32 := ((f3_passTick_0 w (fun _ => 0)).map Prod.fst).getD w
theorem tk_s {w : Nat → Int32} {N : Nat} (hI : Inv w) (hN : N ≤ 8) (hw : w 162 = nI N) : Inv (tk w) ∧ tk w 162 = nI N ∧
    ∀ v2 v7 v8, ∃ v2' v7' v8', f3_passTick_0 w v2 = some (tk w, v2') ∧ f5_tick_0 w v7 v8 = some (tk w, v7', v8') := by
  have key : ∀ v2 v7 v8, ∃ v2' v7' v8', f3_passTick_0 w v2 = some (tk w, v2') ∧ f5_tick_0 w v7 v8 = some (tk w, v7', v8') ∧ Inv (tk w) ∧ tk w 162 = nI N := by
    intro v2 v7 v8
    obtain ⟨w1, a2, a7, a8, p1, p2, p3, p4⟩ := ti_s (v2 := v2) (v7 := v7) (v8 := v8) hI hN hw
    obtain ⟨w2, b2, b7, b8, q1, q2, q3, q4⟩ := ti_s (v2 := fun _ => 0) (v7 := v7) (v8 := v8) hI hN hw
    have e1 : w1 = w2 := by
      rw [p2] at q2
      exact congrArg Prod.fst (Option.some.inj q2)
    have e2 : tk w = w2 := by
      unfold tk
      rw [q1]
      rfl
    rw [e2, ← e1]
    exact ⟨a2, a7, a8, p1, p2, p3, p4⟩
  obtain ⟨_, _, _, _, _, h1, h2⟩ := key (fun _ => 0) (fun _ => 0) (fun _ => 0)
  refine ⟨h1, h2, fun v2 v7 v8 => ?_⟩
  obtain ⟨a, b, c, d, e, _, _⟩ := key v2 v7 v8
  exact ⟨a, b, c, d, e⟩
def alR : Nat → Nat → (Nat → Int32) → Nat × (Nat → Int32)
  | 0, n, w => (n, w)
  | d + 1, n, w => if w (90 + 9 * 0 + 0) = 1 then alR d (n + 1) (tk w) else (n, w)
theorem ro_0 {w : Nat → Int32} (hw : w 162 = nI 1) : f3_isRolling_0 w 0 = some (b01 (w (90 + 9 * 0 + 0) = 1)) := ro_s (k := 0) (N := 1) (by omega) hw (by omega)
theorem s1_id {mu : Nat → Nat → Int32} : s1 (s1 mu (1 + 20) (mu (1 + 20))) 1 (mu 1) = mu := by
  have : s1 (s1 mu (1 + 20) (mu (1 + 20))) 1 (mu 1) = s1 mu 1 (mu 1) := congrArg (fun m => s1 m 1 (mu 1)) s1_same
  rw [this, s1_same]
theorem ta_s : ∀ d n fuel (mu : Nat → Nat → Int32), 200 - n = d → n ≤ 200 → d < fuel → Inv (mu 1) → mu 1 162 = nI 1 →
    Inv (alR d n (mu 1)).2 ∧ (alR d n (mu 1)).2 162 = nI 1 ∧ ∃ a2, f4_tryAlone_22 fuel (nI n) mu = some (nI (alR d n (mu 1)).1, s1 (s1 mu (1 + 20) a2) 1 (alR d n (mu 1)).2) := by
  intro d
  induction d with
  | zero =>
    intro n fuel mu hd hn hf hI hw
    obtain ⟨m, rfl⟩ : ∃ m, fuel = m + 1 := ⟨fuel - 1, by omega⟩
    obtain rfl : n = 200 := by omega
    refine ⟨hI, hw, mu (1 + 20), ?_⟩
    show _ = some (nI 200, s1 (s1 mu (1 + 20) (mu (1 + 20))) 1 (mu 1))
    rw [s1_id]
    simp only [f4_tryAlone_22, f4_tryAlone_53, if_pos (show (200 : Int32) ≤ nI 200 by decide)]
  | succ d ih =>
    intro n fuel mu hd hn hf hI hw
    obtain ⟨m, rfl⟩ : ∃ m, fuel = m + 1 := ⟨fuel - 1, by omega⟩
    have h2 : ¬ (200 : Int32) ≤ nI n := by rw [show (200 : Int32) = nI 200 from rfl, n_le (by omega) (by omega)]; omega
    obtain ⟨t1, t2, t3⟩ := tk_s hI (show 1 ≤ 8 by omega) hw
    by_cases h : mu 1 (90 + 9 * 0 + 0) = 1
    · obtain ⟨a2, a7, a8, p1, p2⟩ := t3 (mu (1 + 20)) (fun _ => 0) (fun _ => 0)
      have ea : alR (d + 1) n (mu 1) = alR d (n + 1) (tk (mu 1)) := if_pos h
      have e1 : s1 (s1 mu (1 + 20) a2) 1 (tk (mu 1)) 1 = tk (mu 1) := s1_k
      have := ih (n + 1) m (s1 (s1 mu (1 + 20) a2) 1 (tk (mu 1))) (by omega) (by omega) (by omega) (by rw [e1]; exact t1) (by rw [e1]; exact t2)
      rw [e1] at this
      obtain ⟨i1, i2, b2, i3⟩ := this
      rw [ea]
      refine ⟨i1, i2, b2, ?_⟩
      rw [s1_mv (k := 1)] at i3
      rw [← i3]
      simp (disch := omega) only [f4_tryAlone_22, if_neg h2, ro_0 hw, b01_t h, ob, if_neg n10, p1, ad_1]
    · have ea : alR (d + 1) n (mu 1) = (n, mu 1) := if_neg h
      rw [ea]
      refine ⟨hI, hw, mu (1 + 20), ?_⟩
      show _ = some (nI n, s1 (s1 mu (1 + 20) (mu (1 + 20))) 1 (mu 1))
      rw [s1_id]
      simp only [f4_tryAlone_22, f4_tryAlone_53, if_neg h2, ro_0 hw, b01_f h, ob]
      rfl
theorem am_s {x3 : Int32} {v2 : Nat → Int32} : ∀ d n fuel (w v7 v8 : Nat → Int32), 200 - n = d → n ≤ 200 → d < fuel → Inv w → w 162 = nI 1 →
    ∃ a7 a8, f5_alone_58 fuel x3 (nI 0) (nI n) w v2 v7 v8 = f5_alone_86 x3 (nI 0) (nI (alR d n w).1) (alR d n w).2 v2 a7 a8 := by
  intro d
  induction d with
  | zero =>
    intro n fuel w v7 v8 hd hn hf hI hw
    obtain ⟨m, rfl⟩ : ∃ m, fuel = m + 1 := ⟨fuel - 1, by omega⟩
    obtain rfl : n = 200 := by omega
    refine ⟨v7, v8, ?_⟩
    simp only [f5_alone_58, if_pos (show (200 : Int32) ≤ nI 200 by decide)]
    rfl
  | succ d ih =>
    intro n fuel w v7 v8 hd hn hf hI hw
    obtain ⟨m, rfl⟩ : ∃ m, fuel = m + 1 := ⟨fuel - 1, by omega⟩
    have h2 : ¬ (200 : Int32) ≤ nI n := by rw [show (200 : Int32) = nI 200 from rfl, n_le (by omega) (by omega)]; omega
    obtain ⟨t1, t2, t3⟩ := tk_s hI (show 1 ≤ 8 by omega) hw
    by_cases h : w (90 + 9 * 0 + 0) = 1
    · obtain ⟨a2, a7, a8, p1, p2⟩ := t3 (fun _ => 0) v7 v8
      have ea : alR (d + 1) n w = alR d (n + 1) (tk w) := if_pos h
      obtain ⟨b7, b8, i3⟩ := ih (n + 1) m (tk w) a7 a8 (by omega) (by omega) (by omega) t1 t2
      rw [ea]
      refine ⟨b7, b8, ?_⟩
      rw [← i3]
      simp (disch := omega) only [f5_alone_58, if_neg h2, isIn_o, b01_t h, ob, if_neg n10, p2, ad_1]
    · have ea : alR (d + 1) n w = (n, w) := if_neg h
      rw [ea]
      refine ⟨v7, v8, ?_⟩
      simp (disch := omega) only [f5_alone_58, if_neg h2, isIn_o, b01_f h, ob]
      rfl
def alS (x y : Int32) (w : Nat → Int32) : Nat → Int32 := s9 (upd w 162 (nI 1)) 0 1 x y 0 0 0 0 0 0
def alW (x y : Int32) (w : Nat → Int32) : Nat × (Nat → Int32) := alR 200 0 (alS x y w)
theorem inv_162 {w : Nat → Int32} {x : Int32} (h : Inv w) (hx : sml x 8) : Inv (upd w 162 x) := by
  rw [s9_of (w := upd w 162 x) (c := 0)]
  refine inv_s9 h (by omega) (fun j hj => upd_n (by omega)) (by rw [upd_s]; exact hx) ?_
  simp (disch := omega) only [upd_n]
  exact inv_q h (c := 0) (by omega)
theorem alS_i {w : Nat → Int32} {x y : Int32} (hI : Inv w) (hx : sml x 20) (hy : sml y 9) : Inv (alS x y w) ∧ alS x y w 162 = nI 1 := by
  unfold alS
  refine ⟨inv_s9 hI (by omega) (fun i hi => upd_n (by omega)) (by rw [upd_s]; exact sml_n (by omega)) ⟨sml_n (k := 1) (by omega), hx, hy, sml_n (k := 0) (by omega), sml_n (k := 0) (by omega), sml_n (k := 0) (by omega), fun _ => sml_n (k := 0) (by omega)⟩, by rw [s9_o (by omega), upd_s]⟩
theorem up_up {f : Nat → Int32} {k : Nat} {x y : Int32} : upd (upd f k x) k y = upd f k y := by
  funext j
  by_cases e : j = k
  · subst e; rw [upd_s, upd_s]
  · rw [upd_n e, upd_n e, upd_n e]
theorem ad_0 {w : Nat → Int32} (hI : Inv w) : f5_adds_0 (upd w 162 0) = some (nI 0, s9 (upd w 162 (nI 1)) 0 0 0 0 0 0 0 0 0 0) := by
  have hz : upd w 162 0 162 = nI 0 := upd_s
  obtain ⟨w', a1, a2, a3, a4⟩ := ad_s (N := 0) (inv_162 hI (sml_n (k := 0) (by omega))) (by omega) hz
  have a1' : f3_addCar_0 (upd w 162 0) = some (nI 0, w') := a1
  have a2' : f5_adds_0 (upd w 162 0) = some (nI 0, w') := a2
  rw [a2']
  have e0 : f0_makeNew_0 0 (upd w 162 0) = some (s9 (upd w 162 0) 0 0 0 0 0 0 0 0 0 0) := rfl
  have b1 : f3_addCar_0 (upd w 162 0) = some (nI 0, s9 (upd w 162 (nI 1)) 0 0 0 0 0 0 0 0 0 0) := by
    unfold f3_addCar_0
    rw [hz, if_neg (by decide), if_pos (by decide)]
    simp (disch := omega) only [gd_n, cl_n, e0, ob, s9_o, hz, ad_1, s9_uo, upd_s, sb_1, up_up]
  rw [a1'] at b1
  exact b1
theorem al_c {mu : Nat → Nat → Int32} {v0 v1 v3 v4 v5 v6 : Nat → Int32} {x y : Int32} (h : Rel mu v0 v1 v3 v4 v5 v6) (hx : sml x 20) (hy : sml y 9) :
    Inv (alW x y v1).2 ∧ ∃ a2, f4_tryAlone_0 x y mu = some (nI (alW x y v1).1, s1 (s1 mu (1 + 20) a2) 1 (alW x y v1).2) := by
  obtain ⟨h1, h2, h3, h4, h5⟩ := h
  have hI : Inv v1 := h1 ▸ h2 0 (by omega)
  obtain ⟨s1i, s1w⟩ := alS_i hI hx hy
  have e1 : s1 mu 1 (alS x y v1) 1 = alS x y v1 := s1_k
  have := ta_s 200 0 fu (s1 mu 1 (alS x y v1)) rfl (by omega) (by rw [fu_eq]; omega) (by rw [e1]; exact s1i) (by rw [e1]; exact s1w)
  rw [e1] at this
  obtain ⟨i1, i2, a2, i3⟩ := this
  refine ⟨i1, a2, ?_⟩
  unfold f4_tryAlone_0
  have e0 : f0_makeNew_0 0 (upd v1 162 1) = some (s9 (upd v1 162 1) 0 0 0 0 0 0 0 0 0 0) := rfl
  have el : f3_leaveOneCar_0 x y v1 = some (alS x y v1) := by
    unfold f3_leaveOneCar_0 f3_leaveOneCar_44
    simp only [gdc0, cl0, e0, ob, s9_u0, s9_u1, s9_u2]
    rfl
  rw [cp_i (h2 0 (by omega)) (h2 1 (by omega)), ob, h1, s1_k, el, ob, s1_s1]
  refine Eq.trans i3 ?_
  have : s1 (s1 (s1 mu 1 (alS x y v1)) (1 + 20) a2) 1 (alR 200 0 (alS x y v1)).2 = s1 (s1 mu (1 + 20) a2) 1 (alR 200 0 (alS x y v1)).2 := by
    rw [s1_c (a := 1) (b := 1 + 20) (by omega), s1_s1]
  rw [this]
  rfl
theorem al_m {v1 v2 v7 v8 : Nat → Int32} {x y what : Int32} (hI : Inv v1) (hW : Inv (alW x y v1).2) (hx : sml x 20) (hy : sml y 9) :
    ∃ v2' v7' v8', f5_alone_0 x y what v1 v2 v7 v8 = some (if what = 0 then (alW x y v1).2 (90 + 9 * 0 + 0) else if what = 1 then nI (alW x y v1).1 else if what = 2 then (alW x y v1).2 (90 + 9 * 0 + 6) else if what = 3 then (alW x y v1).2 (90 + 9 * 0 + 4) else (alW x y v1).2 (90 + 9 * 0 + 8), v1, v2', v7', v8') := by
  obtain ⟨s1i, s1w⟩ := alS_i hI hx hy
  obtain ⟨r, p1, p2⟩ := pa_s (v1 := v1) (v2 := v2)
  obtain ⟨a7, a8, i3⟩ := am_s (x3 := what) (v2 := r) 200 0 fu (alS x y v1) v7 v8 rfl (by omega) (by rw [fu_eq]; omega) s1i s1w
  have pb := pb_s hI p2 hW
  refine ⟨r, a7, a8, ?_⟩
  unfold f5_alone_0 f5_alone_55
  rw [p1, ob, gdm162, cl162, ad_0 hI, ob]
  simp (disch := omega) only [e5_0, e5_1, e5_2, gd_n, cl_n, s9_u0, s9_u1, s9_u2]
  refine Eq.trans i3 ?_
  show f5_alone_86 what (nI 0) (nI (alW x y v1).1) (alW x y v1).2 r a7 a8 = _
  unfold f5_alone_86 f5_alone_165
  simp (disch := omega) only [e5_0, e5_4, e5_6, e5_8, gd_n, cl_n, pb, ob]
  by_cases w0 : what = 0
  · rw [if_pos w0, if_pos w0]
  rw [if_neg w0, if_neg w0]
  by_cases w1 : what = 1
  · rw [if_pos w1, if_pos w1]
  rw [if_neg w1, if_neg w1]
  by_cases w2 : what = 2
  · rw [if_pos w2, if_pos w2]
  rw [if_neg w2, if_neg w2]
  by_cases w3 : what = 3
  · rw [if_pos w3, if_pos w3]
  rw [if_neg w3, if_neg w3]
