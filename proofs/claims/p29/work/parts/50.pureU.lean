/-! the model's order against the class's scan -/
theorem du_0 {k : Nat} : dueN 0 k = if k = 110 then 1 else if k = 108 then 2 else if k = 114 ∨ k = 98 then 5 else if k = 109 then 8 else if k = 116 then 9 else 12 := rfl
theorem du_2 {k : Nat} : dueN 2 k = if 48 ≤ k ∧ k ≤ 55 then 3 else 12 := by simp [dueN, dgN]
theorem du_3 {k : Nat} : dueN 3 k = if k = 43 then 4 else 12 := by simp [dueN]
theorem du_4 (k : Nat) : dueN 4 k = fdN k 50 := by simp [dueN]
theorem du_5 {k : Nat} : dueN 5 k = if 48 ≤ k ∧ k ≤ 55 then 6 else 12 := by simp [dueN, dgN]
theorem du_6 {k : Nat} : dueN 6 k = if k = 47 then 7 else 12 := by simp [dueN]
theorem du_7 {k : Nat} : dueN 7 k = if 48 ≤ k ∧ k ≤ 57 then 1 else 12 := by simp [dueN, dgN]
theorem du_8 {k : Nat} : dueN 8 k = if 48 ≤ k ∧ k ≤ 55 then 1 else 12 := by simp [dueN, dgN]
theorem du_9 (k : Nat) : dueN 9 k = fdN k 54 := by simp [dueN]
theorem nS_1 {v6 : Nat → Int32} {L p : Nat} (h : tN v6 L p ≠ 59) : noS v6 L p (p + 1) := fun i a b => by
  obtain rfl : i = p := by omega
  exact h
theorem nS_t {v6 : Nat → Int32} {L p q r : Nat} (h : noS v6 L p q) (h2 : noS v6 L q r) : noS v6 L p r := fun i a b => by
  by_cases c : i < q
  · exact h i a c
  · exact h2 i (by omega) b
theorem fin_1 : fin 1 := Or.inl rfl
/-- what stands behind the first number of an order: a sign and a second number -/
def Tl (v v6 : Nat → Int32) (L d0 p : Nat) (w v' : Nat → Int32) (lo hi : Nat) : Prop :=
  ∃ q d, (∀ j, j < 11 ∨ j = 13 ∨ j = 14 → v' j = w j) ∧ v' 11 = nI q ∧ p ≤ q ∧ q ≤ L ∧ d < 12 ∧ PT v d0 p d q ∧
    (v' 12 = 1 ∧ ¬ fin d ∧ (q < L → dueN d (tN v6 L q) = 12) ∨
     v' 12 = 0 ∧ fin d ∧ stop v6 L d q ∧ noS v6 L p q ∧ ∃ X, f2_numberAt_0 v (nI (p + 1)) (nI q) = some (nI X) ∧ v' 15 = nI X ∧ lo ≤ X ∧ X ≤ hi)
theorem o202_s {w v v6 : Nat → Int32} {L p : Nat} (h : TC v v6 L) (h7 : w 7 = nI L) (h11 : w 11 = nI p) (h12 : w 12 = 0) (hp : p ≤ L) :
    ∃ v', f5_order_202 v6 w = some v' ∧ Tl v v6 L 6 p w v' 0 9 := by
  obtain ⟨t1, t2, t3, t4⟩ := tn_s h p
  obtain ⟨u1, u2, u3, u4⟩ := tn_s h (p + 1)
  have hL := h.1
  unfold f5_order_202 f5_order_219
  by_cases hs : tN v6 L p = 47
  · have hpL : p < L := t3.mpr (by omega)
    rw [sign_y hL h7 h11 h12 (by omega) (show tx v6 L p = 47 by rw [t1, hs]; rfl), ob]
    have z7 : upd (upd w 12 0) 11 (nI (p + 1)) 7 = nI L := by rw [upd_n (by omega), upd_n (by omega)]; exact h7
    have z12 : upd (upd w 12 0) 11 (nI (p + 1)) 12 = 0 := by rw [upd_n (by omega), upd_s]
    have P1 : PT v 6 p 7 (p + 1) := pt_1 h hpL (by omega) (by rw [du_6, if_pos hs]) (by omega)
    by_cases hd : 48 ≤ tN v6 L (p + 1) ∧ tN v6 L (p + 1) ≤ 57
    · have hqL : p + 1 < L := u3.mpr (by omega)
      have n1 := na_1 (v := v) (v6 := v6) (L := L) (p := p + 1) h (by omega)
      rw [digit_y hL z7 upd_s z12 (by omega) (by rw [u1]; exact (dg_k (lo := 0) (hi := 9) u2 (by omega) (by omega)).mpr (by omega)), ob]
      rw [u1, sb_48 (by omega) (by omega)] at n1
      dsimp only
      refine ⟨_, rfl, p + 2, 1, fun j hj => ?_, ?_, by omega, by omega, by omega, pt_t P1 (pt_1 h hqL (by omega) (by rw [du_7, if_pos hd]) (by omega)), Or.inr ⟨?_, fin_1, st_1, nS_t (nS_1 (by omega)) (nS_1 (by omega)), _, n1, ?_, by omega, by omega⟩⟩
      · rw [upd_n (by omega), upd_n (by omega), upd_n (by omega), upd_n (by omega), upd_n (by omega)]
      · rw [upd_n (by omega), upd_s]
      · rw [upd_n (by omega), upd_n (by omega), upd_s]
      · rw [upd_s, u1, sb_48 (by omega) (by omega)]
    · rw [digit_n hL z7 upd_s z12 (by omega) (by rw [u1]; exact fun q => hd (by have := (dg_k (lo := 0) (hi := 9) u2 (by omega) (by omega)).mp q; omega)), ob]
      dsimp only
      refine ⟨_, rfl, p + 1, 7, fun j hj => ?_, ?_, by omega, by omega, by omega, P1, Or.inl ⟨?_, by unfold fin; omega, fun _ => by rw [du_7, if_neg hd]⟩⟩
      · rw [upd_n (by omega), upd_n (by omega), upd_n (by omega), upd_n (by omega), upd_n (by omega)]
      · rw [upd_n (by omega), upd_s]
      · rw [upd_n (by omega), upd_n (by omega), upd_s]
  · have z7 : upd (upd w 12 1) 11 (nI p) 7 = nI L := by rw [upd_n (by omega), upd_n (by omega)]; exact h7
    have z12 : upd (upd w 12 1) 11 (nI p) 12 = 1 := by rw [upd_n (by omega), upd_s]
    rw [sign_n hL h7 h11 h12 (by omega) (by rw [t1]; exact fun q => hs ((n_eq (b := 47) (by omega) (by omega)).mp q)), ob, digit_w hL z7 upd_s z12 (by omega), ob]
    dsimp only
    refine ⟨_, rfl, p, 6, fun j hj => ?_, ?_, by omega, by omega, by omega, pt_r, Or.inl ⟨?_, by unfold fin; omega, fun _ => by rw [du_6, if_neg hs]⟩⟩
    · rw [upd_n (by omega), upd_n (by omega), upd_n (by omega), upd_n (by omega), upd_n (by omega)]
    · rw [upd_n (by omega), upd_s]
    · rw [upd_n (by omega), upd_n (by omega), upd_s]
theorem oL_s {w v v6 : Nat → Int32} {L p : Nat} (h : TC v v6 L) (h7 : w 7 = nI L) (h11 : w 11 = nI p) (h12 : w 12 = 0) (hp : p ≤ L) :
    ∃ v', Option.bind (f5_sign_0 v6 43 w) (fun t4 => Option.bind (f5_number_0 v6 20 t4) (fun t5 => f5_order_219 v6 (upd t5.2 15 t5.1))) = some v' ∧ Tl v v6 L 3 p w v' 1 20 := by
  obtain ⟨t1, t2, t3, t4⟩ := tn_s h p
  have hL := h.1
  unfold f5_order_219
  by_cases hs : tN v6 L p = 43
  · have hpL : p < L := t3.mpr (by omega)
    rw [sign_y hL h7 h11 h12 (by omega) (show tx v6 L p = 43 by rw [t1, hs]; rfl), ob]
    have z7 : upd (upd w 12 0) 11 (nI (p + 1)) 7 = nI L := by rw [upd_n (by omega), upd_n (by omega)]; exact h7
    have z12 : upd (upd w 12 0) 11 (nI (p + 1)) 12 = 0 := by rw [upd_n (by omega), upd_s]
    have P1 : PT v 3 p 4 (p + 1) := pt_1 h hpL (by omega) (by rw [du_3, if_pos hs]) (by omega)
    obtain ⟨r, e, q, d, e1, e2, e3, e4, e5, e6⟩ := num_s (dd := 4) (g := 50) (H := 20) h z7 upd_s z12 (by omega) (by omega) du_4 (Or.inl rfl) (by omega)
    rw [show (20 : Int32) = nI 20 from rfl, e1, ob]
    dsimp only
    refine ⟨_, rfl, q, d, fun j hj => ?_, ?_, by omega, e3, e4, pt_t P1 e5, ?_⟩
    · rw [upd_n (by omega), upd_n (by omega), upd_n (by omega), upd_n (by omega), upd_n (by omega)]
    · rw [upd_n (by omega), upd_s]
    · rcases e6 with ⟨rfl, rfl, e7⟩ | ⟨rfl, e7, e8, e9, e10, X, e11, e12, e13⟩
      · exact Or.inl ⟨by rw [upd_n (by omega), upd_n (by omega), upd_s], by unfold fin; omega, e7⟩
      · exact Or.inr ⟨by rw [upd_n (by omega), upd_n (by omega), upd_s], e7, e8, nS_t (nS_1 (by omega)) e9, X, by rw [e10, e11], by rw [upd_s, e11], e12, e13⟩
  · have z7 : upd (upd w 12 1) 11 (nI p) 7 = nI L := by rw [upd_n (by omega), upd_n (by omega)]; exact h7
    have z12 : upd (upd w 12 1) 11 (nI p) 12 = 1 := by rw [upd_n (by omega), upd_s]
    rw [sign_n hL h7 h11 h12 (by omega) (by rw [t1]; exact fun q => hs ((n_eq (b := 43) (by omega) (by omega)).mp q)), ob, show (20 : Int32) = nI 20 from rfl, num_x hL z7 upd_s z12 (by omega), ob]
    dsimp only
    refine ⟨_, rfl, p, 3, fun j hj => ?_, ?_, by omega, by omega, by omega, pt_r, Or.inl ⟨?_, by unfold fin; omega, fun _ => by rw [du_3, if_neg hs]⟩⟩
    · rw [upd_n (by omega), upd_n (by omega), upd_n (by omega), upd_n (by omega), upd_n (by omega)]
    · rw [upd_n (by omega), upd_s]
    · rw [upd_n (by omega), upd_n (by omega), upd_s]
/-- the numbers of an order, as the model's slots and the class's readings have them -/
def oA (v v6 : Nat → Int32) (L p q : Nat) (v' : Nat → Int32) : Prop :=
  tN v6 L p = 110 ∨
  tN v6 L p = 116 ∧ (∃ X, f2_numberAt_0 v (nI (p + 1)) (nI q) = some (nI X) ∧ v' 14 = nI X ∧ X ≤ 60) ∨
  (tN v6 L p = 108 ∨ tN v6 L p = 114 ∨ tN v6 L p = 98 ∨ tN v6 L p = 109) ∧ ∃ C X, f2_numberAt_0 v (nI (p + 1)) (nI (p + 2)) = some (nI C) ∧ v' 14 = nI C ∧ C ≤ 7 ∧ f2_numberAt_0 v (nI (p + 3)) (nI q) = some (nI X) ∧ (tN v6 L p = 108 → v' 15 = nI X ∧ 1 ≤ X ∧ X ≤ 20) ∧ (tN v6 L p = 114 ∨ tN v6 L p = 98 → v' 15 = nI X ∧ X ≤ 9)
def oR (v v6 : Nat → Int32) (L p : Nat) (v0 v' : Nat → Int32) : Prop :=
  ∃ q d, (∀ j, j < 11 → v' j = v0 j) ∧ v' 11 = nI q ∧ p ≤ q ∧ q ≤ L ∧ d < 12 ∧ PT v 0 p d q ∧
    (v' 12 = 1 ∧ ¬ fin d ∧ (q < L → dueN d (tN v6 L q) = 12) ∨
     v' 12 = 0 ∧ p < q ∧ fin d ∧ stop v6 L d q ∧ noS v6 L p q ∧ v' 13 = nI (tN v6 L p) ∧ oA v v6 L p q v')
/-- an order with a car, behind its letter -/
theorem ordC {b v v6 : Nat → Int32} {L p k dc : Nat} (h : TC v v6 L) (h7 : b 7 = nI L) (h11 : b 11 = nI (p + 1)) (h12 : b 12 = 0) (hp : p < L) (hk : tN v6 L p = k)
    (hkc : k = 108 ∨ k = 114 ∨ k = 98 ∨ k = 109) (h13 : b 13 = nI k) (hd0 : dueN 0 k = dc) (hdc : dc < 12) (hfc : ¬ fin dc) (hdu : ∀ j, dueN dc j = if 48 ≤ j ∧ j ≤ 55 then (if k = 108 then 3 else if k = 109 then 1 else 6) else 12) :
    ∃ v', Option.bind (f5_digit_0 v6 0 7 b) (fun t4 => f5_order_153 v6 t4.1 t4.2) = some v' ∧ oR v v6 L p b v' := by
  obtain ⟨u1, u2, u3, u4⟩ := tn_s h (p + 1)
  have hL := h.1
  have P0 : PT v 0 p dc (p + 1) := pt_1 h hp (by omega) (by rw [hk]; exact hd0) hdc
  have hns : tN v6 L p ≠ 59 := by omega
  by_cases hd : 48 ≤ tN v6 L (p + 1) ∧ tN v6 L (p + 1) ≤ 55
  · have hqL : p + 1 < L := u3.mpr (by omega)
    rw [digit_y hL h7 h11 h12 (by omega) (by rw [u1]; exact (dg_k (lo := 0) (hi := 7) u2 (by omega) (by omega)).mpr (by omega)), ob]
    have n1 := na_1 (v := v) (v6 := v6) (L := L) (p := p + 1) h (by omega)
    rw [u1, sb_48 (by omega) (by omega)] at n1
    rw [u1, sb_48 (by omega) (by omega)]
    dsimp only
    obtain ⟨w, hw⟩ : ∃ w, w = upd (upd (upd b 12 0) 11 (nI (p + 2))) 14 (nI (tN v6 L (p + 1) - 48)) := ⟨_, rfl⟩
    have w7 : w 7 = nI L := by rw [hw, upd_n (by omega), upd_n (by omega), upd_n (by omega)]; exact h7
    have w11 : w 11 = nI (p + 2) := by rw [hw, upd_n (by omega), upd_s]
    have w12 : w 12 = 0 := by rw [hw, upd_n (by omega), upd_n (by omega), upd_s]
    have w13 : w 13 = nI k := by rw [hw, upd_n (by omega), upd_n (by omega), upd_n (by omega)]; exact h13
    have w14 : w 14 = nI (tN v6 L (p + 1) - 48) := by rw [hw, upd_s]
    have wj : ∀ j, j < 11 → w j = b j := fun j hj => by rw [hw, upd_n (by omega), upd_n (by omega), upd_n (by omega)]
    unfold f5_order_153
    rw [← hw, w13]
    have c : ∀ x : Nat, x < 128 → (nI k = nI x ↔ k = x) := fun x hx => n_eq (by omega) (by omega)
    have ns2 : noS v6 L p (p + 2) := nS_t (nS_1 hns) (nS_1 (by omega))
    by_cases k1 : k = 108
    · rw [if_pos (show nI k = 108 from (c 108 (by omega)).mpr k1)]
      have P2 : PT v 0 p 3 (p + 2) := pt_t P0 (pt_1 h hqL hdc (by rw [hdu, if_pos hd, if_pos k1]) (by omega))
      obtain ⟨v', e1, q, d, e2, e3, e4, e5, e6, e7, e8⟩ := oL_s h w7 w11 w12 (show p + 2 ≤ L by omega)
      refine ⟨v', e1, q, d, fun j hj => (e2 j (Or.inl hj)).trans (wj j hj), e3, by omega, e5, e6, pt_t P2 e7, ?_⟩
      rcases e8 with ⟨f1, f2, f3⟩ | ⟨f1, f2, f3, f4, X, f5, f6, f7, f8⟩
      · exact Or.inl ⟨f1, f2, f3⟩
      · refine Or.inr ⟨f1, by omega, f2, f3, nS_t ns2 f4, by rw [e2 13 (by omega), w13, hk], Or.inr (Or.inr ⟨by omega, tN v6 L (p + 1) - 48, X, n1, by rw [e2 14 (by omega), w14], by omega, f5, fun _ => ⟨f6, f7, f8⟩, fun q => by omega⟩)⟩
    · rw [if_neg (show ¬ nI k = 108 from fun q => k1 ((c 108 (by omega)).mp q))]
      have via : k = 114 ∨ k = 98 → ∃ v', f5_order_202 v6 w = some v' ∧ oR v v6 L p b v' := by
        intro kk
        have P2 : PT v 0 p 6 (p + 2) := pt_t P0 (pt_1 h hqL hdc (by rw [hdu, if_pos hd, if_neg k1, if_neg (by omega)]) (by omega))
        obtain ⟨v', e1, q, d, e2, e3, e4, e5, e6, e7, e8⟩ := o202_s h w7 w11 w12 (show p + 2 ≤ L by omega)
        refine ⟨v', e1, q, d, fun j hj => (e2 j (Or.inl hj)).trans (wj j hj), e3, by omega, e5, e6, pt_t P2 e7, ?_⟩
        rcases e8 with ⟨f1, f2, f3⟩ | ⟨f1, f2, f3, f4, X, f5, f6, f7, f8⟩
        · exact Or.inl ⟨f1, f2, f3⟩
        · refine Or.inr ⟨f1, by omega, f2, f3, nS_t ns2 f4, by rw [e2 13 (by omega), w13, hk], Or.inr (Or.inr ⟨by omega, tN v6 L (p + 1) - 48, X, n1, by rw [e2 14 (by omega), w14], by omega, f5, fun q => by omega, fun _ => ⟨f6, f8⟩⟩)⟩
      by_cases k2 : k = 114
      · rw [if_pos (show nI k = 114 from (c 114 (by omega)).mpr k2)]
        exact via (Or.inl k2)
      · rw [if_neg (show ¬ nI k = 114 from fun q => k2 ((c 114 (by omega)).mp q))]
        by_cases k3 : k = 98
        · rw [if_pos (show nI k = 98 from (c 98 (by omega)).mpr k3)]
          exact via (Or.inr k3)
        · rw [if_neg (show ¬ nI k = 98 from fun q => k3 ((c 98 (by omega)).mp q))]
          have k4 : k = 109 := by omega
          have P2 : PT v 0 p 1 (p + 2) := pt_t P0 (pt_1 h hqL hdc (by rw [hdu, if_pos hd, if_neg k1, if_pos k4]) (by omega))
          refine ⟨w, rfl, p + 2, 1, wj, w11, by omega, by omega, by omega, P2, Or.inr ⟨w12, by omega, fin_1, st_1, ns2, by rw [w13, hk], Or.inr (Or.inr ⟨by omega, tN v6 L (p + 1) - 48, 0, n1, w14, by omega, na_0 (by rw [n_le (by omega) (by omega)]; omega), fun q => by omega, fun q => by omega⟩)⟩⟩
  · rw [digit_n hL h7 h11 h12 (by omega) (by rw [u1]; exact fun q => hd (by have := (dg_k (lo := 0) (hi := 7) u2 (by omega) (by omega)).mp q; omega)), ob]
    dsimp only
    have z7 : upd (upd b 12 1) 11 (nI (p + 1)) 7 = nI L := by rw [upd_n (by omega), upd_n (by omega)]; exact h7
    have z12 : upd (upd b 12 1) 11 (nI (p + 1)) 12 = 1 := by rw [upd_n (by omega), upd_s]
    obtain ⟨v', e1, e2, e3, e4⟩ := o153_w (v6 := v6) (y := tx v6 L (p + 1) - 48) hL z7 upd_s z12 (by omega)
    refine ⟨v', e1, p + 1, dc, fun j hj => by rw [e4 j hj, upd_n (by omega), upd_n (by omega)], e3, by omega, by omega, hdc, P0, Or.inl ⟨e2, hfc, fun _ => by rw [hdu, if_neg hd]⟩⟩
theorem ord_s {v0 v v6 : Nat → Int32} {L p : Nat} (h : TC v v6 L) (h7 : v0 7 = nI L) (h11 : v0 11 = nI p) (h12 : v0 12 = 0) (hp : p ≤ L) :
    ∃ v', f5_order_0 v6 v0 = some v' ∧ oR v v6 L p v0 v' := by
  obtain ⟨t1, t2, t3, t4⟩ := tn_s h p
  have hL := h.1
  rw [or_l hL h7 h11 h12 (by omega) t2 t1]
  obtain ⟨b, hb⟩ : ∃ b, b = or1 v0 (tN v6 L p) (p + 1) 0 := ⟨_, rfl⟩
  have b7 : b 7 = nI L := by rw [hb, or1_o (by omega)]; exact h7
  have b11 : b 11 = nI (p + 1) := by rw [hb, or1_11]
  have b12 : b 12 = 0 := by rw [hb, or1_12]
  have b13 : b 13 = nI (tN v6 L p) := by rw [hb, or1_13]
  have bj : ∀ j, j < 11 → b j = v0 j := fun j hj => by rw [hb, or1_o hj]
  rw [← hb]
  have out : ∀ v', oR v v6 L p b v' → oR v v6 L p v0 v' := fun v' ⟨q, d, e1, e2⟩ => ⟨q, d, fun j hj => (e1 j hj).trans (bj j hj), e2⟩
  by_cases hl : isLet (tN v6 L p) = true
  · rw [if_pos hl]
    have hl' : tN v6 L p = 110 ∨ tN v6 L p = 108 ∨ tN v6 L p = 114 ∨ tN v6 L p = 98 ∨ tN v6 L p = 109 ∨ tN v6 L p = 116 := of_decide_eq_true hl
    have hpL : p < L := t3.mpr (by omega)
    by_cases k1 : tN v6 L p = 110
    · rw [if_pos k1]
      exact ⟨b, rfl, p + 1, 1, bj, b11, by omega, by omega, by omega, pt_1 h hpL (by omega) (by rw [du_0, if_pos k1]) (by omega), Or.inr ⟨b12, by omega, fin_1, st_1, nS_1 (by omega), b13, Or.inl k1⟩⟩
    · rw [if_neg k1]
      by_cases k2 : tN v6 L p = 116
      · rw [if_pos k2]
        have P0 : PT v 0 p 9 (p + 1) := pt_1 h hpL (by omega) (by rw [k2]; rfl) (by omega)
        obtain ⟨r, e, q, d, e1, e2, e3, e4, e5, e6⟩ := num_s (dd := 9) (g := 54) (H := 60) h b7 b11 b12 (by omega) (by omega) du_9 (Or.inr rfl) (by omega)
        have z13 : upd (upd b 12 e) 11 (nI q) 13 = nI 116 := by rw [upd_n (by omega), upd_n (by omega), b13, k2]
        rw [e1, ob]
        dsimp only
        rw [o153_e (by rw [z13]; decide) (by rw [z13]; decide) (by rw [z13]; decide)]
        refine ⟨_, rfl, q, d, fun j hj => ?_, ?_, by omega, e3, e4, pt_t P0 e5, ?_⟩
        · rw [upd_n (by omega), upd_n (by omega), upd_n (by omega)]; exact bj j hj
        · rw [upd_n (by omega), upd_s]
        · rcases e6 with ⟨rfl, rfl, e7⟩ | ⟨rfl, e7, e8, e9, e10, X, e11, e12, e13⟩
          · exact Or.inl ⟨by rw [upd_n (by omega), upd_n (by omega), upd_s], by unfold fin; omega, e7⟩
          · exact Or.inr ⟨by rw [upd_n (by omega), upd_n (by omega), upd_s], by omega, e7, e8, nS_t (nS_1 (by omega)) e9, by rw [upd_n (by omega), z13, k2], Or.inr (Or.inl ⟨k2, X, by rw [e10, e11], by rw [upd_s, e11], e13⟩)⟩
      · rw [if_neg k2]
        by_cases k3 : tN v6 L p = 108
        · obtain ⟨v', e1, e2⟩ := ordC (dc := 2) h b7 b11 b12 hpL rfl (by omega) b13 (by rw [k3]; rfl) (by omega) (by unfold fin; omega) (fun j => by rw [du_2, k3]; rfl)
          exact ⟨v', e1, out _ e2⟩
        · by_cases k4 : tN v6 L p = 109
          · obtain ⟨v', e1, e2⟩ := ordC (dc := 8) h b7 b11 b12 hpL rfl (by omega) b13 (by rw [k4]; rfl) (by omega) (by unfold fin; omega) (fun j => by rw [du_8, k4]; rfl)
            exact ⟨v', e1, out _ e2⟩
          · obtain ⟨v', e1, e2⟩ := ordC (dc := 5) h b7 b11 b12 hpL rfl (by omega) b13 (by rw [du_0, if_neg k1, if_neg k3, if_pos (by omega)]) (by omega) (by unfold fin; omega) (fun j => by rw [du_5, if_neg k3, if_neg k4])
            exact ⟨v', e1, out _ e2⟩
  · rw [if_neg hl]
    have hl' : ¬ (tN v6 L p = 110 ∨ tN v6 L p = 108 ∨ tN v6 L p = 114 ∨ tN v6 L p = 98 ∨ tN v6 L p = 109 ∨ tN v6 L p = 116) := fun q => hl (decide_eq_true q)
    refine ⟨_, rfl, p, 0, fun j hj => or1_o hj, or1_11, by omega, hp, by omega, pt_r, Or.inl ⟨or1_12, by unfold fin; omega, fun _ => ?_⟩⟩
    rw [du_0, if_neg (by omega), if_neg (by omega), if_neg (by omega), if_neg (by omega), if_neg (by omega)]
