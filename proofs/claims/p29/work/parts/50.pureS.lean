/-! the model's reading of an order: behind the first number -/
theorem num_x {v0 v6 : Nat → Int32} {L p H : Nat} (hL : L ≤ 60) (h7 : v0 7 = nI L) (h11 : v0 11 = nI p) (h12 : v0 12 = 1) (hp : p < 2 ^ 30) :
    f5_number_0 v6 (nI H) v0 = some (tx v6 L p - 48, upd (upd v0 12 1) 11 (nI p)) := by
  have e := digit_w (lo := 1) (hi := 9) hL h7 h11 h12 hp (v6 := v6)
  have z7 : upd (upd v0 12 1) 11 (nI p) 7 = nI L := by rw [upd_n (by omega), upd_n (by omega)]; exact h7
  have z12 : upd (upd v0 12 1) 11 (nI p) 12 = 1 := by rw [upd_n (by omega), upd_s]
  unfold f5_number_0 f5_number_59
  rw [e, ob, nx_s (p := p) hL z7 upd_s (by omega), ob]
  dsimp only
  rw [if_neg (show ¬ upd (upd v0 12 1) 11 (nI p) 12 = 0 by rw [z12]; exact n10)]
theorem o153_e {v0 v6 : Nat → Int32} {y : Int32} (h1 : ¬ v0 13 = 108) (h2 : ¬ v0 13 = 114) (h3 : ¬ v0 13 = 98) : f5_order_153 v6 y v0 = some (upd v0 14 y) := by
  have z13 : upd v0 14 y 13 = v0 13 := upd_n (by omega)
  unfold f5_order_153 f5_order_219
  rw [if_neg (show ¬ upd v0 14 y 13 = 108 by rw [z13]; exact h1), if_neg (show ¬ upd v0 14 y 13 = 114 by rw [z13]; exact h2), if_neg (show ¬ upd v0 14 y 13 = 98 by rw [z13]; exact h3)]
theorem o202_w {v0 v6 : Nat → Int32} {L p : Nat} (hL : L ≤ 60) (h7 : v0 7 = nI L) (h11 : v0 11 = nI p) (h12 : v0 12 = 1) (hp : p < 2 ^ 29) :
    ∃ v', f5_order_202 v6 v0 = some v' ∧ v' 12 = 1 ∧ v' 11 = nI p ∧ ∀ j, j < 11 → v' j = v0 j := by
  have z7 : upd (upd v0 12 1) 11 (nI p) 7 = nI L := by rw [upd_n (by omega), upd_n (by omega)]; exact h7
  have z12 : upd (upd v0 12 1) 11 (nI p) 12 = 1 := by rw [upd_n (by omega), upd_s]
  unfold f5_order_202 f5_order_219
  rw [sign_w h11 h12, ob, digit_w hL z7 upd_s z12 (by omega), ob]
  dsimp only
  refine ⟨_, rfl, ?_, ?_, fun j hj => ?_⟩
  · rw [upd_n (by omega), upd_n (by omega), upd_s]
  · rw [upd_n (by omega), upd_s]
  · rw [upd_n (by omega), upd_n (by omega), upd_n (by omega), upd_n (by omega), upd_n (by omega)]
theorem o153_w {v0 v6 : Nat → Int32} {L p : Nat} {y : Int32} (hL : L ≤ 60) (h7 : v0 7 = nI L) (h11 : v0 11 = nI p) (h12 : v0 12 = 1) (hp : p < 2 ^ 29) :
    ∃ v', f5_order_153 v6 y v0 = some v' ∧ v' 12 = 1 ∧ v' 11 = nI p ∧ ∀ j, j < 11 → v' j = v0 j := by
  obtain ⟨b, hb⟩ : ∃ b, b = upd v0 14 y := ⟨_, rfl⟩
  have b7 : b 7 = nI L := by rw [hb, upd_n (by omega)]; exact h7
  have b11 : b 11 = nI p := by rw [hb, upd_n (by omega)]; exact h11
  have b12 : b 12 = 1 := by rw [hb, upd_n (by omega)]; exact h12
  have bj : ∀ j, j < 11 → b j = v0 j := fun j hj => by rw [hb, upd_n (by omega)]
  unfold f5_order_153
  rw [← hb]
  have via : ∃ v', f5_order_202 v6 b = some v' ∧ v' 12 = 1 ∧ v' 11 = nI p ∧ ∀ j, j < 11 → v' j = v0 j := by
    obtain ⟨v', e1, e2, e3, e4⟩ := o202_w (v6 := v6) hL b7 b11 b12 hp
    exact ⟨v', e1, e2, e3, fun j hj => (e4 j hj).trans (bj j hj)⟩
  by_cases h1 : b 13 = 108
  · rw [if_pos h1]
    have z7 : upd (upd b 12 1) 11 (nI p) 7 = nI L := by rw [upd_n (by omega), upd_n (by omega)]; exact b7
    have z12 : upd (upd b 12 1) 11 (nI p) 12 = 1 := by rw [upd_n (by omega), upd_s]
    rw [sign_w b11 b12, ob, show (20 : Int32) = nI 20 from rfl, num_x hL z7 upd_s z12 (by omega), ob]
    unfold f5_order_219
    dsimp only
    refine ⟨_, rfl, ?_, ?_, fun j hj => ?_⟩
    · rw [upd_n (by omega), upd_n (by omega), upd_s]
    · rw [upd_n (by omega), upd_s]
    · rw [upd_n (by omega), upd_n (by omega), upd_n (by omega), upd_n (by omega), upd_n (by omega)]
      exact bj j hj
  · rw [if_neg h1]
    by_cases h2 : b 13 = 114
    · rw [if_pos h2]; exact via
    · rw [if_neg h2]
      by_cases h3 : b 13 = 98
      · rw [if_pos h3]; exact via
      · rw [if_neg h3]
        exact ⟨b, rfl, b12, b11, bj⟩
