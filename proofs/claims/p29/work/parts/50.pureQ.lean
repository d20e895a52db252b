/-! the model's reading of a number -/
theorem dg_k {k lo hi : Nat} (hk : k < 128) (hlo : lo ≤ 9) (hhi : hi ≤ 9) : (nI lo ≤ nI k - 48 ∧ nI k - 48 ≤ nI hi) ↔ 48 + lo ≤ k ∧ k ≤ 48 + hi := by
  have z : (48 : Int32).toInt = 48 := rfl
  have a := nI_toInt (n := k) (by omega)
  have b := nI_toInt (n := lo) (by omega)
  have c := nI_toInt (n := hi) (by omega)
  have e := i_sub (a := nI k) (b := 48) (by rw [a, z]; omega) (by rw [a, z]; omega)
  rw [a, z] at e
  rw [i_le, i_le, e, b, c]
  omega
theorem sb_48 {k : Nat} (hk : k < 2 ^ 30) (h : 48 ≤ k) : nI k - 48 = nI (k - 48) := by
  have z : (48 : Int32).toInt = 48 := rfl
  have a := nI_toInt (n := k) (by omega)
  have b := nI_toInt (n := k - 48) (by omega)
  rw [i_eq, i_sub, a, z, b]
  · omega
  · rw [a, z]; omega
  · rw [a, z]; omega
theorem num_w {v0 v6 : Nat → Int32} {L p k H : Nat} (hL : L ≤ 60) (h7 : v0 7 = nI L) (h11 : v0 11 = nI p) (h12 : v0 12 = 0) (hp : p < 2 ^ 30) (hk : k < 128) (ht : tx v6 L p = nI k) (hd : ¬ (49 ≤ k ∧ k ≤ 57)) :
    f5_number_0 v6 (nI H) v0 = some (nI k - 48, upd (upd v0 12 1) 11 (nI p)) := by
  have hq : ¬ ((1 : Int32) ≤ tx v6 L p - 48 ∧ tx v6 L p - 48 ≤ 9) := by
    rw [ht]
    exact fun q => hd (by have := (dg_k (lo := 1) (hi := 9) hk (by omega) (by omega)).mp q; omega)
  have e := digit_n hL h7 h11 h12 hp hq
  have z7 : upd (upd v0 12 1) 11 (nI p) 7 = nI L := by rw [upd_n (by omega), upd_n (by omega)]; exact h7
  have z12 : upd (upd v0 12 1) 11 (nI p) 12 = 1 := by rw [upd_n (by omega), upd_s]
  unfold f5_number_0 f5_number_59
  rw [e, ob, nx_s (p := p) hL z7 upd_s (by omega), ob]
  dsimp only
  rw [if_neg (show ¬ upd (upd v0 12 1) 11 (nI p) 12 = 0 by rw [z12]; exact n10), ht]
theorem num_2 {v0 v6 : Nat → Int32} {L p k k2 H : Nat} (hL : L ≤ 60) (h7 : v0 7 = nI L) (h11 : v0 11 = nI p) (h12 : v0 12 = 0) (hp : p < 2 ^ 29) (hk : k < 128) (hk2 : k2 < 128) (hH : H < 2 ^ 30)
    (ht : tx v6 L p = nI k) (ht2 : tx v6 L (p + 1) = nI k2) (hd : 49 ≤ k ∧ k ≤ 57) :
    f5_number_0 v6 (nI H) v0 = some (if 48 ≤ k2 ∧ k2 ≤ 57 ∧ 10 * (k - 48) + (k2 - 48) ≤ H then (nI (10 * (k - 48) + (k2 - 48)), upd (upd v0 12 0) 11 (nI (p + 2))) else (nI (k - 48), upd (upd v0 12 0) 11 (nI (p + 1)))) := by
  have hq : (1 : Int32) ≤ tx v6 L p - 48 ∧ tx v6 L p - 48 ≤ 9 := by
    rw [ht]
    exact (dg_k (lo := 1) (hi := 9) hk (by omega) (by omega)).mpr (by omega)
  have e := digit_y hL h7 h11 h12 (by omega) hq
  have z7 : upd (upd v0 12 0) 11 (nI (p + 1)) 7 = nI L := by rw [upd_n (by omega), upd_n (by omega)]; exact h7
  have z12 : upd (upd v0 12 0) 11 (nI (p + 1)) 12 = 0 := by rw [upd_n (by omega), upd_s]
  have hdig : ((48 : Int32) ≤ nI k2 ∧ nI k2 ≤ 57) ↔ (48 ≤ k2 ∧ k2 ≤ 57) := by
    rw [show (48 : Int32) = nI 48 from rfl, show (57 : Int32) = nI 57 from rfl, n_le (by omega) (by omega), n_le (by omega) (by omega)]
  unfold f5_number_0 f5_number_59
  rw [e, ob, nx_s (p := p + 1) hL z7 upd_s (by omega), ob]
  dsimp only
  rw [if_pos z12, ob, ht, ht2, in_s, ob, sb_48 (by omega) (by omega)]
  show (if b01 (48 ≤ nI k2 ∧ nI k2 ≤ 57) = 0 then some (nI (k - 48), upd (upd v0 12 0) 11 (nI (p + 1))) else if nI H < 10 * nI (k - 48) + nI k2 - 48 then some (nI (k - 48), upd (upd v0 12 0) 11 (nI (p + 1))) else some (10 * nI (k - 48) + nI k2 - 48, upd (upd (upd v0 12 0) 11 (nI (p + 1))) 11 (upd (upd v0 12 0) 11 (nI (p + 1)) 11 + 1))) = _
  by_cases h1 : 48 ≤ k2 ∧ k2 ≤ 57
  · rw [b01_t (hdig.mpr h1), if_neg n10, mr_10, ad_n, sb_48 (by omega) (by omega), upd_s, ad_1, up_up, show 10 * (k - 48) + k2 - 48 = 10 * (k - 48) + (k2 - 48) by omega]
    by_cases h2 : 10 * (k - 48) + (k2 - 48) ≤ H
    · rw [if_neg (by rw [n_lt (by omega) (by omega)]; omega), if_pos ⟨h1.1, h1.2, h2⟩]
    · rw [if_pos (by rw [n_lt (by omega) (by omega)]; omega), if_neg (fun q => h2 q.2.2)]
  · rw [b01_f (fun q => h1 (hdig.mp q)), if_pos rfl, if_neg (fun q => h1 ⟨q.1, q.2.1⟩)]
