/-! the text: signs -/
def tx (v6 : Nat → Int32) (L p : Nat) : Int32 := if p < L then v6 p else 0
theorem tx_k {v6 : Nat → Int32} {L p : Nat} (h : ∀ i, i < L → ∃ k, 33 ≤ k ∧ k ≤ 126 ∧ v6 i = nI k) : ∃ k, k ≤ 126 ∧ tx v6 L p = nI k ∧ (p < L ↔ 33 ≤ k) ∧ (¬ p < L → k = 0) := by
  unfold tx
  by_cases hp : p < L
  · obtain ⟨k, h1, h2, h3⟩ := h p hp
    exact ⟨k, h2, by rw [if_pos hp]; exact h3, ⟨fun _ => h1, fun _ => hp⟩, fun q => absurd hp q⟩
  · exact ⟨0, by omega, by rw [if_neg hp]; rfl, ⟨fun q => absurd q hp, fun q => by omega⟩, fun _ => rfl⟩
theorem sg_s {v v6 : Nat → Int32} {L i : Nat} (hL : L ≤ 60) (h60 : v 60 = nI L) (hv : ∀ i, i < L → v i = v6 i) (hc : ∀ i, i < L → ∃ k, 33 ≤ k ∧ k ≤ 126 ∧ v6 i = nI k) (hi : i < 2 ^ 31) :
    f2_signAt_0 v (nI i) = some (tx v6 L i) := by
  unfold f2_signAt_0 f2_signAt_27 f2_signAt_28
  rw [if_neg (nI_n0 hi), h60]
  unfold tx
  by_cases h : i < L
  · rw [if_neg (by rw [n_le (by omega) hi]; omega), if_neg (by rw [show (60 : Int32) = nI 60 from rfl, n_le (by omega) hi]; omega), if_pos h]
    obtain ⟨k, h1, h2, h3⟩ := hc i h
    simp (disch := omega) only [gd_n, cl_n, hv i h, h3]
    unfold gc
    rw [if_pos (chr_u (by omega))]
  · rw [if_pos (by rw [n_le (by omega) hi]; omega), if_neg h]
    unfold gc
    rw [if_pos (by decide)]
theorem nx_s {v0 v6 : Nat → Int32} {L p : Nat} (hL : L ≤ 60) (h7 : v0 7 = nI L) (h11 : v0 11 = nI p) (hp : p < 2 ^ 31) : f5_next_0 v0 v6 = some (tx v6 L p) := by
  unfold f5_next_0 f5_next_24
  rw [h7, h11]
  unfold tx
  by_cases h : p < L
  · rw [if_neg (by rw [n_le (by omega) hp]; omega), if_pos h]
    simp (disch := omega) only [gd_n, cl_n]
  · rw [if_pos (by rw [n_le (by omega) hp]; omega), if_neg h]
theorem idg_s {v lo hi : Int32} : f2_isDigit_0 v lo hi = some (b01 (lo ≤ v ∧ v ≤ hi)) := by
  unfold f2_isDigit_0 f2_isDigit_14 f2_isDigit_15
  by_cases h1 : v < lo
  · rw [if_pos h1, gz_0, b01_f (fun h => by rw [i_lt] at h1; have := i_le.mp h.1; omega)]
  · rw [if_neg h1]
    by_cases h2 : hi < v
    · rw [if_pos h2, gz_0, b01_f (fun h => by rw [i_lt] at h2; have := i_le.mp h.2; omega)]
    · rw [if_neg h2, gz_1, b01_t ⟨by rw [i_lt] at h1; rw [i_le]; omega, by rw [i_lt] at h2; rw [i_le]; omega⟩]
/-! the model's reading of a sign, a digit, a number -/
theorem sign_y {v0 v6 : Nat → Int32} {L p : Nat} {x : Int32} (hL : L ≤ 60) (h7 : v0 7 = nI L) (h11 : v0 11 = nI p) (h12 : v0 12 = 0) (hp : p < 2 ^ 30) (ht : tx v6 L p = x) :
    f5_sign_0 v6 x v0 = some (upd (upd v0 12 0) 11 (nI (p + 1))) := by
  unfold f5_sign_0 f5_sign_21 f5_sign_41
  rw [if_pos h12, nx_s hL h7 h11 (by omega), ob, if_pos ht, gz_0, upd_s, if_pos rfl, upd_n (by omega), h11, ad_1]
theorem sign_n {v0 v6 : Nat → Int32} {L p : Nat} {x : Int32} (hL : L ≤ 60) (h7 : v0 7 = nI L) (h11 : v0 11 = nI p) (h12 : v0 12 = 0) (hp : p < 2 ^ 30) (ht : ¬ tx v6 L p = x) :
    f5_sign_0 v6 x v0 = some (upd (upd v0 12 1) 11 (nI p)) := by
  unfold f5_sign_0 f5_sign_16 f5_sign_21 f5_sign_41
  rw [if_pos h12, nx_s hL h7 h11 (by omega), ob, if_neg ht, gz_1, upd_s, if_neg n10, upd_n (by omega), h11, Int32.add_zero]
theorem sign_w {v0 v6 : Nat → Int32} {p : Nat} {x : Int32} (h11 : v0 11 = nI p) (h12 : v0 12 = 1) :
    f5_sign_0 v6 x v0 = some (upd (upd v0 12 1) 11 (nI p)) := by
  unfold f5_sign_0 f5_sign_16 f5_sign_21 f5_sign_41
  rw [h12, if_neg n10, gz_1, upd_s, if_neg n10, upd_n (by omega), h11, Int32.add_zero]
theorem digit_y {v0 v6 : Nat → Int32} {L p : Nat} {lo hi : Int32} (hL : L ≤ 60) (h7 : v0 7 = nI L) (h11 : v0 11 = nI p) (h12 : v0 12 = 0) (hp : p < 2 ^ 30) (ht : lo ≤ tx v6 L p - 48 ∧ tx v6 L p - 48 ≤ hi) :
    f5_digit_0 v6 lo hi v0 = some (tx v6 L p - 48, upd (upd v0 12 0) 11 (nI (p + 1))) := by
  unfold f5_digit_0 f5_digit_30 f5_digit_50
  rw [nx_s hL h7 h11 (by omega), ob, if_pos h12, in_s, b01_t ht, ob, if_neg n10, gz_0, upd_s, if_pos rfl, upd_n (by omega), h11, ad_1]
theorem digit_n {v0 v6 : Nat → Int32} {L p : Nat} {lo hi : Int32} (hL : L ≤ 60) (h7 : v0 7 = nI L) (h11 : v0 11 = nI p) (h12 : v0 12 = 0) (hp : p < 2 ^ 30) (ht : ¬ (lo ≤ tx v6 L p - 48 ∧ tx v6 L p - 48 ≤ hi)) :
    f5_digit_0 v6 lo hi v0 = some (tx v6 L p - 48, upd (upd v0 12 1) 11 (nI p)) := by
  unfold f5_digit_0 f5_digit_25 f5_digit_30 f5_digit_50
  rw [nx_s hL h7 h11 (by omega), ob, if_pos h12, in_s, b01_f ht, ob, if_pos rfl, gz_1, upd_s, if_neg n10, upd_n (by omega), h11, Int32.add_zero]
theorem digit_w {v0 v6 : Nat → Int32} {L p : Nat} {lo hi : Int32} (hL : L ≤ 60) (h7 : v0 7 = nI L) (h11 : v0 11 = nI p) (h12 : v0 12 = 1) (hp : p < 2 ^ 30) :
    f5_digit_0 v6 lo hi v0 = some (tx v6 L p - 48, upd (upd v0 12 1) 11 (nI p)) := by
  unfold f5_digit_0 f5_digit_25 f5_digit_30 f5_digit_50
  rw [nx_s hL h7 h11 (by omega), ob, h12, if_neg n10, gz_1, upd_s, if_neg n10, upd_n (by omega), h11, Int32.add_zero]
/-! the class's table of what is due: 12 stands for what is wrong -/
def dI (d : Nat) : Int32 := if d = 12 then -1 else nI d
def dgN (k lo hi : Nat) : Bool := decide (lo ≤ k ∧ k ≤ hi)
def fdN (k g : Nat) : Nat := if dgN k 49 57 then (if k = g then 11 else if g ≤ k then 1 else 10) else 12
def enN (d k : Nat) : Nat := if k = 59 then 0 else if d = 10 ∧ dgN k 48 57 = true ∨ d = 11 ∧ k = 48 then 1 else 12
def dueN (d k : Nat) : Nat :=
  if d = 0 then (if k = 110 then 1 else if k = 108 then 2 else if k = 114 ∨ k = 98 then 5 else if k = 109 then 8 else if k = 116 then 9 else 12)
  else if d = 2 then (if dgN k 48 55 then 3 else 12)
  else if d = 3 then (if k = 43 then 4 else 12)
  else if d = 4 then fdN k 50
  else if d = 5 then (if dgN k 48 55 then 6 else 12)
  else if d = 6 then (if k = 47 then 7 else 12)
  else if d = 7 then (if dgN k 48 57 then 1 else 12)
  else if d = 8 then (if dgN k 48 55 then 1 else 12)
  else if d = 9 then fdN k 54
  else enN d k
def dueB (d : Nat) : Nat → Bool
  | 0 => true
  | k + 1 => dueB d k && decide (f2_dueAfter_0 (nI d) (nI k) = some (dI (dueN d k)))
theorem dueB_s {d : Nat} : ∀ {m k : Nat}, dueB d m = true → k < m → f2_dueAfter_0 (nI d) (nI k) = some (dI (dueN d k))
  | m + 1, k, h, hk => by
    rw [dueB, Bool.and_eq_true] at h
    by_cases e : k = m
    · subst e; exact of_decide_eq_true h.2
    · exact dueB_s (m := m) h.1 (by omega)
set_option maxRecDepth 100000 in
theorem dueB_all : ∀ d : Fin 12, dueB d.val 128 = true := by decide
theorem due_s {d k : Nat} (hd : d < 12) (hk : k < 128) : f2_dueAfter_0 (nI d) (nI k) = some (dI (dueN d k)) := dueB_s (dueB_all ⟨d, hd⟩) hk
