def pos (id : Nat) : Nat := if id < 30 then id + 1 else if id < 120 then id + 3 else if id < 150 then id + 7 else if id = 150 then 0 else if id = 151 then 31 else if id = 152 then 32 else if id = 153 then 123 else if id = 154 then 124 else if id = 155 then 125 else 126
def inv (r : Nat) : Nat := if r = 0 then 150 else if r < 31 then r - 1 else if r = 31 then 151 else if r = 32 then 152 else if r < 123 then r - 3 else if r = 123 then 153 else if r = 124 then 154 else if r = 125 then 155 else if r = 126 then 156 else r - 7
theorem inv_pos {id : Nat} (h : id < 157) : inv (pos id) = id := by
  rcases (show id < 30 ∨ (30 ≤ id ∧ id < 120) ∨ (120 ≤ id ∧ id < 150) ∨ id = 150 ∨ id = 151 ∨ id = 152 ∨ id = 153 ∨ id = 154 ∨ id = 155 ∨ id = 156 by omega) with q | q | q | rfl | rfl | rfl | rfl | rfl | rfl | rfl
  · have e : pos id = id + 1 := if_pos q
    rw [e]
    unfold inv
    rw [if_neg (by omega), if_pos (by omega)]
    omega
  · have e : pos id = id + 3 := (if_neg (by omega)).trans (if_pos (by omega))
    rw [e]
    unfold inv
    rw [if_neg (by omega), if_neg (by omega), if_neg (by omega), if_neg (by omega), if_pos (by omega)]
    omega
  · have e : pos id = id + 7 := (if_neg (by omega)).trans ((if_neg (by omega)).trans (if_pos (by omega)))
    rw [e]
    unfold inv
    rw [if_neg (by omega), if_neg (by omega), if_neg (by omega), if_neg (by omega), if_neg (by omega), if_neg (by omega), if_neg (by omega), if_neg (by omega), if_neg (by omega)]
    omega
  all_goals rfl
theorem pos_lt {id : Nat} (h : id < 157) : pos id < 157 := by
  unfold pos
  repeat' split
  all_goals omega
theorem pos_inj {i j : Nat} (hi : i < 157) (hj : j < 157) (h : pos i = pos j) : i = j := by
  rw [← inv_pos hi, ← inv_pos hj, h]
def mu0 : Nat → Nat → Int32 := fun k => if k < 10 then s0 else fun _ => 0
def ad0 (n : Nat) : Nat → Nat := fun id => n + pos id
theorem pos_k {k x : Nat} (hx : x < 15) (hk : k < 10) : pos (15 * k + x) = (if k < 2 then 1 else if k < 8 then 3 else 7) + 15 * k + x := by
  unfold pos
  rcases (show k < 2 ∨ (2 ≤ k ∧ k < 8) ∨ 8 ≤ k by omega) with h | h | h
  · rw [if_pos (by omega), if_pos h]; omega
  · rw [if_neg (by omega), if_pos (by omega), if_neg (by omega), if_pos (by omega)]; omega
  · rw [if_neg (by omega), if_neg (by omega), if_pos (by omega), if_neg (by omega), if_neg (by omega)]; omega
theorem stE_ad {Y : cYt} {a a' : Nat → Nat} {b b' r : Nat} {σ τ : Nat → Int32} (h : ∀ x, x < 15 → a (b + x) = a' (b' + x)) : stE Y a b r σ τ = stE Y a' b' r σ τ := by
  match r with
  | 0 =>
    unfold stE stFs
    rw [h 1 (by omega), h 2 (by omega), h 3 (by omega), h 4 (by omega), h 5 (by omega), h 6 (by omega)]
  | 1 => rfl
  | 2 => rfl
  | 3 => rfl
  | 4 => rfl
  | 5 =>
    have e : (fun i => if i < 8 then some (a (b + (i + 7))) else none) = (fun i => if i < 8 then some (a' (b' + (i + 7))) else none) := by
      funext i
      by_cases hi : i < 8
      · rw [if_pos hi, if_pos hi, h (i + 7) (by omega)]
      · rw [if_neg hi, if_neg hi]
    exact congrArg (fun f => Sum.inl (Y.2.2.2.1, 8, Sum.inr (Sum.inr (Sum.inr (Sum.inr f))))) e
  | 6 => rfl
  | r + 7 => rfl
theorem g4_k {Y : cYt} {n k j r : Nat} {a : Nat → Nat} (hk : k < 10) (hj : j < 15) (hr : inv r = 15 * k + j) (ha : ∀ x, x < 15 → a (0 + x) = n + pos (15 * k + x)) : stE Y a 0 j s0 (fun _ => 0) = cwE Y (ad0 n) mu0 (inv r) := by
  rw [hr, cw_st hk hj, show mu0 k = s0 from if_pos hk, show mu0 (k + 20) = fun _ => 0 from if_neg (by omega)]
  exact stE_ad ha
theorem inv_k {r : Nat} (k j c : Nat) (hk : k < 10) (hj : j < 15) (hc : c = (if k < 2 then 1 else if k < 8 then 3 else 7) + 15 * k) (hr : r = c + j) : inv r = 15 * k + j := by
  have e := pos_k hj hk
  rw [← hc, ← hr] at e
  rw [← e, inv_pos (by omega)]
theorem g4_h (n : Nat) : (fun i => if i < 6 then some (n + 31 + (2 + 15 * i)) else none) = (fun i => if i < 6 then some (ad0 n (15 * (2 + i))) else none) := by
  funext i
  by_cases h : i < 6
  · rw [if_pos h, if_pos h]
    unfold ad0
    have e := pos_k (k := 2 + i) (x := 0) (by omega) (by omega)
    rw [if_neg (by omega), if_pos (by omega)] at e
    rw [show 15 * (2 + i) = 15 * (2 + i) + 0 by omega, e]
    congr 1
    omega
  · rw [if_neg h, if_neg h]
theorem g4_s (n : Nat) : va_up (va_up (fun _ => none) 0 (some (n + 127))) 1 (some (n + 142)) = (fun i => if i < 2 then some (ad0 n (15 * (8 + i))) else none) := by
  funext i
  by_cases h : i < 2
  · rcases (show i = 0 ∨ i = 1 by omega) with rfl | rfl <;> rfl
  · rw [if_neg h, va_up_ne _ _ (by omega), va_up_ne _ _ (by omega)]
