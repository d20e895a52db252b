/-! the whole text: firstError -/
theorem fin_59 {d : Nat} (h : fin d) : dueN d 59 = 0 := by
  rcases h with rfl | rfl | rfl
  · rw [du_1, if_pos rfl]
  · rw [du_10, if_pos rfl]
  · rw [du_11, if_pos rfl]
theorem fin_lt {d : Nat} (h : fin d) : d < 12 := by unfold fin at h; omega
theorem iw_e {v6 : Nat → Int32} (m : Nat) (x : Nat → Int32) : f5_isWhole_12 v6 (m + 1) 0 x = if x 12 = 0 then some (1, x) else some (0, x) := by
  have e : f5_isWhole_12 v6 (m + 1) 0 x = if x 12 = 0 then f5_isWhole_82 v6 1 x else f5_isWhole_82 v6 0 x := if_pos rfl
  rw [e]
  unfold f5_isWhole_82
  rw [gz_1, gz_0]
theorem iw_n {v6 : Nat → Int32} (m : Nat) (x : Nat → Int32) : f5_isWhole_12 v6 (m + 1) 1 x = Option.bind (f5_order_0 v6 x) (fun t3 => if (t3 12) = 0 then (if (t3 7) ≤ (t3 11) then (f5_isWhole_42 v6 (f5_isWhole_12 v6 m) t3) else (f5_isWhole_43 v6 (f5_isWhole_12 v6 m) 1 t3)) else (f5_isWhole_42 v6 (f5_isWhole_12 v6 m) t3)) := if_neg n10
theorem iw_42 {v6 : Nat → Int32} (m : Nat) (x : Nat → Int32) : f5_isWhole_42 v6 (f5_isWhole_12 v6 (m + 1)) x = if x 12 = 0 then some (1, x) else some (0, x) := by
  unfold f5_isWhole_42 f5_isWhole_43
  rw [if_pos rfl, iw_e]
theorem wh_s {v v6 : Nat → Int32} {L : Nat} (h : TC v v6 L) : ∀ (n p m : Nat) (v0 : Nat → Int32), L - p < n → p ≤ L → n ≤ m → v0 7 = nI L → v0 11 = nI p → v0 12 = 0 →
    ∃ b v', f5_isWhole_12 v6 (m + 1) 1 v0 = some (b, v') ∧ (∀ j, j < 11 → v' j = v0 j) ∧
      (b = 1 ∧ v' 12 = 0 ∧ (∀ k, f2_errorIndex_4 v (k + (L - p) + 2) (nI 0) (nI p) = some (nI L) ∧ f2_isComplete_4 v (k + (L - p) + 2) (nI 0) (nI p) = some 1) ∨
       b = 0 ∧ (∀ k, f2_errorIndex_4 v (k + (L - p) + 2) (nI 0) (nI p) = some (v' 11) ∧ f2_isComplete_4 v (k + (L - p) + 2) (nI 0) (nI p) = some 0)) := by
  intro n
  induction n with
  | zero => intro p m v0 hn; omega
  | succ n ih =>
    intro p m v0 hn hp hm h7 h11 h12
    have hL := h.1
    obtain ⟨m, rfl⟩ : ∃ k, m = k + 1 := ⟨m - 1, by omega⟩
    obtain ⟨w, e1, q, d, e2, e3, e4, e5, e6, e7, e8⟩ := ord_s h h7 h11 h12 hp
    have w7 : w 7 = nI L := (e2 7 (by omega)).trans h7
    rw [iw_n, e1, ob]
    try dsimp only
    have PTk : ∀ k, f2_errorIndex_4 v (k + (L - p) + 2) (nI 0) (nI p) = f2_errorIndex_4 v (k + (L - q) + 2) (nI d) (nI q) ∧ f2_isComplete_4 v (k + (L - p) + 2) (nI 0) (nI p) = f2_isComplete_4 v (k + (L - q) + 2) (nI d) (nI q) := by
      intro k
      have := e7.2 (k + (L - q) + 2)
      rw [show k + (L - q) + 2 + (q - p) = k + (L - p) + 2 by omega] at this
      exact this
    have bad : q < L → dueN d (tN v6 L q) = 12 → ∀ k, f2_errorIndex_4 v (k + (L - p) + 2) (nI 0) (nI p) = some (nI q) ∧ f2_isComplete_4 v (k + (L - p) + 2) (nI 0) (nI p) = some 0 := by
      intro hq hd k
      rw [(PTk k).1, (PTk k).2]
      have := pt_w h hq e6 hd
      exact ⟨(this (k + (L - q) + 1)).1, (this (k + (L - q))).2⟩
    rcases e8 with ⟨f1, f2, f3⟩ | ⟨f1, f2, f3, f4, f5, f6, f7⟩
    · rw [if_neg (by rw [f1]; exact n10), iw_42, if_neg (by rw [f1]; exact n10)]
      refine ⟨0, w, rfl, e2, Or.inr ⟨rfl, fun k => ?_⟩⟩
      rw [e3]
      by_cases hq : q < L
      · exact bad hq (f3 hq) k
      · obtain rfl : q = L := by omega
        rw [(PTk k).1, (PTk k).2, Nat.sub_self]
        have := pt_e h e6 (k + 1)
        exact ⟨this.1, this.2.2 f2⟩
    · rw [if_pos f1]
      by_cases hq : q < L
      · rw [if_neg (by rw [w7, e3, n_le (by omega) (by omega)]; omega)]
        unfold f5_isWhole_43 f5_isWhole_66
        rw [if_neg n10]
        obtain ⟨t1, t2, t3, t4⟩ := tn_s h q
        by_cases hs : tN v6 L q = 59
        · rw [sign_y hL w7 e3 f1 (by omega) (show tx v6 L q = 59 by rw [t1, hs]; rfl), ob, if_pos (show upd (upd w 12 0) 11 (nI (q + 1)) 12 = 0 by rw [upd_n (by omega), upd_s])]
          obtain ⟨b, v', g1, g2, g3⟩ := ih (q + 1) m (upd (upd w 12 0) 11 (nI (q + 1))) (by omega) (by omega) (by omega) (by rw [upd_n (by omega), upd_n (by omega)]; exact w7) upd_s (by rw [upd_n (by omega), upd_s])
          have P2 : PT v 0 p 0 (q + 1) := pt_t e7 (pt_1 h hq e6 (by rw [hs]; exact fin_59 f3) (by omega))
          have P2k : ∀ k, f2_errorIndex_4 v (k + (L - p) + 2) (nI 0) (nI p) = f2_errorIndex_4 v (k + (L - (q + 1)) + 2) (nI 0) (nI (q + 1)) ∧ f2_isComplete_4 v (k + (L - p) + 2) (nI 0) (nI p) = f2_isComplete_4 v (k + (L - (q + 1)) + 2) (nI 0) (nI (q + 1)) := by
            intro k
            have := P2.2 (k + (L - (q + 1)) + 2)
            rw [show k + (L - (q + 1)) + 2 + (q + 1 - p) = k + (L - p) + 2 by omega] at this
            exact this
          refine ⟨b, v', g1, fun j hj => by rw [g2 j hj, upd_n (by omega), upd_n (by omega)]; exact e2 j hj, ?_⟩
          rcases g3 with ⟨a1, a0, a2⟩ | ⟨a1, a2⟩
          · exact Or.inl ⟨a1, a0, fun k => by rw [(P2k k).1, (P2k k).2]; exact a2 k⟩
          · exact Or.inr ⟨a1, fun k => by rw [(P2k k).1, (P2k k).2]; exact a2 k⟩
        · have hd : dueN d (tN v6 L q) = 12 := (f4 hq).resolve_left hs
          have z12 : upd (upd w 12 1) 11 (nI q) 12 = 1 := by rw [upd_n (by omega), upd_s]
          rw [sign_n hL w7 e3 f1 (by omega) (by rw [t1]; exact fun r => hs ((n_eq (b := 59) (by omega) (by omega)).mp r)), ob, if_neg (by rw [z12]; exact n10), iw_e, if_neg (by rw [z12]; exact n10)]
          exact ⟨0, _, rfl, fun j hj => by rw [upd_n (by omega), upd_n (by omega)]; exact e2 j hj, Or.inr ⟨rfl, fun k => by rw [upd_s]; exact bad hq hd k⟩⟩
      · obtain rfl : q = L := by omega
        rw [if_pos (by rw [w7, e3]; exact Int32.le_refl _), iw_42, if_pos f1]
        refine ⟨1, w, rfl, e2, Or.inl ⟨rfl, f1, fun k => ?_⟩⟩
        rw [(PTk k).1, (PTk k).2, Nat.sub_self]
        have := pt_e h e6 (k + 1)
        exact ⟨this.1, this.2.1 f3⟩
theorem tc_of {mu : Nat → Nat → Int32} {v0 v6 : Nat → Int32} (h : TextR mu v0 v6) : ∃ L, TC (mu 12) v6 L ∧ v0 7 = nI L := by
  obtain ⟨L, h1, h2, h3, h4⟩ := h
  exact ⟨L, ⟨h1, h2, fun i hi => (h4 i hi).1, fun i hi => (h4 i hi).2⟩, h3⟩
theorem w0_s {v v6 v0 : Nat → Int32} {L : Nat} (h : TC v v6 L) (h7 : v0 7 = nI L) :
    ∃ b v', f5_isWhole_0 v6 v0 = some (b, v') ∧ (∀ j, j < 11 → v' j = v0 j) ∧
      (b = 1 ∧ v' 12 = 0 ∧ f2_errorIndex_0 v = some (nI L) ∧ f2_isComplete_0 v = some 1 ∧ (∀ k, f2_isComplete_4 v (k + L + 2) (nI 0) (nI 0) = some 1) ∨
       b = 0 ∧ f2_errorIndex_0 v = some (v' 11) ∧ f2_isComplete_0 v = some 0) := by
  have hL := h.1
  obtain ⟨b, v', g1, g2, g3⟩ := wh_s h (L + 1) 0 999 (upd (upd v0 11 0) 12 0) (by omega) (by omega) (by omega) (by rw [upd_n (by omega), upd_n (by omega)]; exact h7) (by rw [upd_n (by omega), upd_s]; rfl) upd_s
  have ef : fu = (998 - L) + (L - 0) + 2 := by rw [fu_eq]; omega
  refine ⟨b, v', g1, fun j hj => by rw [g2 j hj, upd_n (by omega), upd_n (by omega)], ?_⟩
  rcases g3 with ⟨a1, a0, a2⟩ | ⟨a1, a2⟩
  · refine Or.inl ⟨a1, a0, ?_, ?_, fun k => (a2 k).2⟩
    · unfold f2_errorIndex_0
      rw [ef]
      exact (a2 (998 - L)).1
    · unfold f2_isComplete_0
      rw [ef]
      exact (a2 (998 - L)).2
  · refine Or.inr ⟨a1, ?_, ?_⟩
    · unfold f2_errorIndex_0
      rw [ef]
      exact (a2 (998 - L)).1
    · unfold f2_isComplete_0
      rw [ef]
      exact (a2 (998 - L)).2
theorem q_firstError {mu : Nat → Nat → Int32} {v0 v1 v3 v4 v5 v6 : Nat → Int32} (h : Rel mu v0 v1 v3 v4 v5 v6) :
    ∃ r v0', f4_firstError_0 mu = some r ∧ f5_firstError_0 v6 v0 = some (r, v0') ∧ Rel mu v0' v1 v3 v4 v5 v6 := by
  obtain ⟨L, hT, h7⟩ := tc_of h.2.2.2.2
  obtain ⟨b, v', g1, g2, g3⟩ := w0_s (v0 := upd v0 8 0) hT (by rw [upd_n (by omega)]; exact h7)
  have hR : Rel mu v' v1 v3 v4 v5 v6 := rel_v0 h (by rw [g2 3 (by omega), upd_n (by omega)]) (by rw [g2 7 (by omega), upd_n (by omega)])
  have v7 : v' 7 = nI L := by rw [g2 7 (by omega), upd_n (by omega)]; exact h7
  unfold f4_firstError_0 f5_firstError_0 f5_firstError_23
  rw [g1, ob]
  try dsimp only
  rcases g3 with ⟨rfl, a0, a2, a3, a4⟩ | ⟨rfl, a2, a3⟩
  · rw [a2, ob, if_neg n10]
    exact ⟨nI L, v', rfl, by rw [v7], hR⟩
  · rw [a2, ob, if_pos rfl]
    exact ⟨v' 11, v', rfl, rfl, hR⟩
