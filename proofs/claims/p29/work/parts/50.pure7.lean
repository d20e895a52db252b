/-! the invariant is kept -/
def carQ (a0 a1 a2 a3 a4 a5 a6 a7 a8 : Int32) : Prop := sml a0 4 ∧ sml a1 20 ∧ sml a2 9 ∧ sml a3 40 ∧ sml a4 300 ∧ sml a5 200 ∧ (a0 = 1 ∨ a0 = 0 → sml a4 299)
theorem inv_n {w : Nat → Int32} (h : Inv w) : sml (w 162) 8 := h.1
theorem inv_c {w : Nat → Int32} (h : Inv w) {c : Nat} (hc : c < 8) : carI w c := h.2.1 c hc
theorem inv_p {w : Nat → Int32} (h : Inv w) {c : Nat} (hc : c < 8) : sml (w (90 + 9 * c + 4)) 300 := (h.2.1 c hc).2.2.2.2.1
theorem inv_s9 {w q : Nat → Int32} {c : Nat} {a0 a1 a2 a3 a4 a5 a6 a7 a8 : Int32} (h : Inv w) (hc : c < 8) (hq : ∀ i, i < 60 ∨ (90 ≤ i ∧ i < 162) ∨ 168 ≤ i → q i = w i) (h2 : sml (q 162) 8) (hQ : carQ a0 a1 a2 a3 a4 a5 a6 a7 a8) : Inv (s9 q c a0 a1 a2 a3 a4 a5 a6 a7 a8) := by
  obtain ⟨i1, i2, i3, i4, i5, i6, i7⟩ := h
  refine ⟨by rw [s9_o (by omega)]; exact h2, ?_, ?_, ?_, ?_, ?_, fun i hi => by rw [s9_o (by omega), hq _ (by omega)]; exact i7 i hi⟩
  · intro d hd
    by_cases e : d = c
    · subst e
      unfold carI
      rw [s9_r0, s9_r1, s9_r2, s9_r3, s9_r4, s9_r5]
      exact hQ
    · have := i2 d hd
      unfold carI at this ⊢
      rw [s9_d e (by omega), s9_d e (by omega), s9_d e (by omega), s9_d e (by omega), s9_d e (by omega), s9_d e (by omega)]
      rw [hq _ (by omega), hq _ (by omega), hq _ (by omega), hq _ (by omega), hq _ (by omega), hq _ (by omega)]
      exact this
  · rw [s9_o (by omega), s9_o (by omega), s9_o (by omega), hq _ (by omega), hq _ (by omega), hq _ (by omega)]
    exact i3
  · intro i hi
    rw [s9_o (by omega), hq _ (by omega)]
    exact i4 i hi
  · intro i hi
    rw [s9_o (by omega), hq _ (by omega)]
    exact i5 i hi
  · rw [ct_congr (Q := fun i => decide (0 < w (30 + i))) (fun i hi => by
      show decide (0 < s9 q c a0 a1 a2 a3 a4 a5 a6 a7 a8 (30 + i)) = decide (0 < w (30 + i))
      rw [s9_o (by omega), hq _ (by omega)])]
    exact i6
theorem inv_q {w : Nat → Int32} (h : Inv w) {c : Nat} (hc : c < 8) : carQ (w (90 + 9 * c + 0)) (w (90 + 9 * c + 1)) (w (90 + 9 * c + 2)) (w (90 + 9 * c + 3)) (w (90 + 9 * c + 4)) (w (90 + 9 * c + 5)) (w (90 + 9 * c + 6)) (w (90 + 9 * c + 7)) (w (90 + 9 * c + 8)) := inv_c h hc
theorem inv_upd {w : Nat → Int32} {i : Nat} {x : Int32} (h : Inv w) (hi : 60 ≤ i ∧ i < 90 ∨ 163 ≤ i ∧ i < 168) : Inv (upd w i x) := by
  rw [s9_of (w := upd w i x) (c := 0)]
  refine inv_s9 h (by omega) (fun j hj => upd_n (by omega)) (by rw [upd_n (by omega)]; exact h.1) ?_
  simp (disch := omega) only [upd_n]
  exact inv_q h (c := 0) (by omega)
theorem sml_mono {x : Int32} {M M' : Nat} (h : sml x M) (hM : M ≤ M') : sml x M' := by
  obtain ⟨k, hk, rfl⟩ := h
  exact ⟨k, by omega, rfl⟩
theorem sml_n {k M : Nat} (h : k ≤ M) : sml (nI k) M := ⟨k, h, rfl⟩
theorem mv_s {w : Nat → Int32} {N c : Nat} (hI : Inv w) (hN : N ≤ 8) (hw : w 162 = nI N) (hc : c < N) (h0 : w (90 + 9 * c + 0) = 1) :
    ∃ w', f3_moveCar_0 (nI c) w = some w' ∧ f5_moves_0 (nI c) w = some w' ∧ Inv w' ∧ w' 162 = nI N ∧ ∀ d, d < 8 → d ≠ c → w' (90 + 9 * d + 0) = w (90 + 9 * d + 0) := by
  obtain ⟨q0, q1, q2, q3, q4, q5, q6⟩ := inv_q hI (c := c) (by omega)
  obtain ⟨p, hp, e4⟩ := q6 (Or.inl h0)
  obtain ⟨sp, to, h, b7, tp, w', r1, r2, r3, s1, s2, s3⟩ := mv_9 (q := w) (N := N) (c := c) (p := p) (a0 := w (90 + 9 * c + 0)) (a1 := w (90 + 9 * c + 1)) (a2 := w (90 + 9 * c + 2)) (a3 := w (90 + 9 * c + 3)) (a5 := w (90 + 9 * c + 5)) (a6 := w (90 + 9 * c + 6)) (a7 := w (90 + 9 * c + 7)) (a8 := w (90 + 9 * c + 8)) hN hw hc (by omega) q2 q5 (fun d hd _ => ⟨inv_p hI (by omega), (inv_c hI (c := d) (by omega)).2.2.2.1⟩)
  rw [← e4, ← s9_of] at r1 r2
  refine ⟨w', r1, r2, ?_⟩
  rcases r3 with ⟨rfl, hto⟩ | ⟨m, hm, rfl⟩ | ⟨x, y, z, rfl⟩
  · refine ⟨inv_s9 hI (by omega) (fun i hi => rfl) hI.1 ?_, by rw [s9_o (by omega)]; exact hw, fun d hd e => s9_d e (by omega)⟩
    have k2 := sml_i s2 (by omega)
    have k3 := i_lt.mp hto
    rw [show (300 : Int32).toInt = 300 from rfl] at k3
    exact ⟨q0, q1, q2, s1, sml_of (by omega) (by omega) (by omega), s3, fun _ => sml_of (by omega) (by omega) (by omega)⟩
  · refine ⟨inv_s9 hI (by omega) (fun i hi => upd_n (by omega)) (by rw [upd_n (by omega)]; exact hI.1) ?_, by rw [s9_o (by omega), upd_n (by omega)]; exact hw, fun d hd e => by rw [s9_d e (by omega), upd_n (by omega)]⟩
    exact ⟨sml_n (k := 3) (by omega), q1, q2, sml_n (k := 0) (by omega), sml_n (by omega), s3, fun e => absurd e (by decide)⟩
  · refine ⟨inv_s9 hI (by omega) (fun i hi => by rw [upd_n (by omega), upd_n (by omega)]) (by rw [upd_n (by omega), upd_n (by omega)]; exact hI.1) ?_, by rw [s9_o (by omega), upd_n (by omega), upd_n (by omega)]; exact hw, fun d hd e => by rw [s9_d e (by omega), upd_n (by omega), upd_n (by omega)]⟩
    exact ⟨sml_n (k := 2) (by omega), sml_n (k := 0) (by omega), sml_n (k := 0) (by omega), sml_n (k := 0) (by omega), sml_n (k := 300) (by omega), s3, fun e => absurd e (by decide)⟩
/-! the end of a tick for a car -/
theorem wi_cool {a : Int32} (h : sml a 200) : wi (a - 5) 0 200 = if a ≤ 5 then 0 else a - 5 := by
  have k := sml_i h (by omega)
  have z0 : (0 : Int32).toInt = 0 := rfl
  have z5 : (5 : Int32).toInt = 5 := rfl
  have z2 : (200 : Int32).toInt = 200 := rfl
  have e3 := i_sub (a := a) (b := 5) (by rw [z5]; omega) (by rw [z5]; omega)
  rw [z5] at e3
  unfold wi
  by_cases g : a ≤ 5
  · have g' := i_le.mp g
    rw [z5] at g'
    rw [if_pos g]
    by_cases g2 : 0 ≤ a - 5
    · have g2' := i_le.mp g2
      rw [z0, e3] at g2'
      have hz : a - 5 = 0 := by rw [i_eq, e3, z0]; omega
      rw [hz]; rfl
    · rw [if_neg g2]
  · rw [if_neg g]
    have g' : ¬ a.toInt ≤ (5 : Int32).toInt := fun q => g (i_le.mpr q)
    rw [z5] at g'
    rw [if_pos (by rw [i_le, e3, z0]; omega), if_pos (by rw [i_le, e3, z2]; omega)]
theorem wi_pull {a b : Int32} (h : sml a 300) (hb : sml b 20) : wi (a - b) 0 300 = if 0 < a - b then a - b else 0 := by
  have k := sml_i h (by omega)
  have kb := sml_i hb (by omega)
  have z0 : (0 : Int32).toInt = 0 := rfl
  have z3 : (300 : Int32).toInt = 300 := rfl
  have e3 := i_sub (a := a) (b := b) (by omega) (by omega)
  unfold wi
  by_cases g : 0 < a - b
  · have g' := i_lt.mp g
    rw [z0, e3] at g'
    rw [if_pos g, if_pos (by rw [i_le, e3, z0]; omega), if_pos (by rw [i_le, e3, z3]; omega)]
  · rw [if_neg g]
    have g' : ¬ (0 : Int32).toInt < (a - b).toInt := fun q => g (i_lt.mpr q)
    rw [z0, e3] at g'
    by_cases g2 : 0 ≤ a - b
    · have g2' := i_le.mp g2
      rw [z0, e3] at g2'
      have hz : a - b = 0 := by rw [i_eq, e3, z0]; omega
      rw [hz]; rfl
    · rw [if_neg g2]
