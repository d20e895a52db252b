/-! the model's reading of an order: the letter -/
def or1 (v0 : Nat → Int32) (k p : Nat) (e : Int32) : Nat → Int32 := upd (upd (upd v0 13 (nI k)) 12 e) 11 (nI p)
theorem or1_12 {v0 : Nat → Int32} {k p : Nat} {e : Int32} : or1 v0 k p e 12 = e := by unfold or1; rw [upd_n (by omega), upd_s]
theorem or1_11 {v0 : Nat → Int32} {k p : Nat} {e : Int32} : or1 v0 k p e 11 = nI p := by unfold or1; rw [upd_s]
theorem or1_13 {v0 : Nat → Int32} {k p : Nat} {e : Int32} : or1 v0 k p e 13 = nI k := by unfold or1; rw [upd_n (by omega), upd_n (by omega), upd_s]
theorem or1_o {v0 : Nat → Int32} {k p j : Nat} {e : Int32} (h : j < 11) : or1 v0 k p e j = v0 j := by unfold or1; rw [upd_n (by omega), upd_n (by omega), upd_n (by omega)]
def isLet (k : Nat) : Bool := decide (k = 110 ∨ k = 108 ∨ k = 114 ∨ k = 98 ∨ k = 109 ∨ k = 116)
theorem or_l {v0 v6 : Nat → Int32} {L p k : Nat} (hL : L ≤ 60) (h7 : v0 7 = nI L) (h11 : v0 11 = nI p) (h12 : v0 12 = 0) (hp : p < 2 ^ 29) (hk : k < 128) (ht : tx v6 L p = nI k) :
    f5_order_0 v6 v0 = if isLet k = true then (if k = 110 then some (or1 v0 k (p + 1) 0) else if k = 116 then Option.bind (f5_number_0 v6 (nI 60) (or1 v0 k (p + 1) 0)) (fun t5 => f5_order_153 v6 t5.1 t5.2) else Option.bind (f5_digit_0 v6 0 7 (or1 v0 k (p + 1) 0)) (fun t4 => f5_order_153 v6 t4.1 t4.2)) else some (or1 v0 k p 1) := by
  have z12 : upd v0 13 (nI k) 12 = 0 := by rw [upd_n (by omega)]; exact h12
  have z13 : upd v0 13 (nI k) 13 = nI k := upd_s
  have z11 : ∀ e, upd (upd v0 13 (nI k)) 12 e 11 = nI p := fun e => by rw [upd_n (by omega), upd_n (by omega)]; exact h11
  have y12 : ∀ e, upd (upd v0 13 (nI k)) 12 e 12 = e := fun e => upd_s
  have e1 : f5_order_0 v6 v0 = f5_order_16 v6 (nI k) v0 := by
    unfold f5_order_0
    rw [if_pos h12, nx_s hL h7 h11 (by omega), ob, ht]
  have ok : f5_order_85 v6 (upd v0 13 (nI k)) = (if nI k = 110 then some (or1 v0 k (p + 1) 0) else if nI k = 116 then Option.bind (f5_number_0 v6 60 (or1 v0 k (p + 1) 0)) (fun t5 => f5_order_153 v6 t5.1 t5.2) else Option.bind (f5_digit_0 v6 0 7 (or1 v0 k (p + 1) 0)) (fun t4 => f5_order_153 v6 t4.1 t4.2)) := by
    unfold f5_order_85 f5_order_86
    rw [gz_0, if_pos (y12 0), z11]
    unfold f5_order_106 f5_order_126
    rw [ad_1]
    show (if or1 v0 k (p + 1) 0 12 = 0 then (if or1 v0 k (p + 1) 0 13 = 110 then some (or1 v0 k (p + 1) 0) else if or1 v0 k (p + 1) 0 13 = 116 then Option.bind (f5_number_0 v6 60 (or1 v0 k (p + 1) 0)) (fun t5 => f5_order_153 v6 t5.1 t5.2) else Option.bind (f5_digit_0 v6 0 7 (or1 v0 k (p + 1) 0)) (fun t4 => f5_order_153 v6 t4.1 t4.2)) else some (or1 v0 k (p + 1) 0)) = _
    rw [if_pos or1_12, or1_13]
  have no : f5_order_81 v6 (upd v0 13 (nI k)) = some (or1 v0 k p 1) := by
    unfold f5_order_81 f5_order_86
    rw [gz_1, if_neg (show ¬ upd (upd v0 13 (nI k)) 12 1 12 = 0 by rw [y12]; exact n10), z11]
    unfold f5_order_106 f5_order_126
    rw [Int32.add_zero]
    show (if or1 v0 k p 1 12 = 0 then _ else some (or1 v0 k p 1)) = _
    rw [if_neg (show ¬ or1 v0 k p 1 12 = 0 by rw [or1_12]; exact n10)]
  have q : ∀ c : Nat, c < 128 → (nI k = nI c ↔ k = c) := fun c hc => n_eq (by omega) (by omega)
  rw [e1]
  unfold f5_order_16
  rw [if_pos z12, z13, ok, no]
  have c110 : nI k = 110 ↔ k = 110 := q 110 (by omega)
  have c108 : nI k = 108 ↔ k = 108 := q 108 (by omega)
  have c114 : nI k = 114 ↔ k = 114 := q 114 (by omega)
  have c98 : nI k = 98 ↔ k = 98 := q 98 (by omega)
  have c109 : nI k = 109 ↔ k = 109 := q 109 (by omega)
  have c116 : nI k = 116 ↔ k = 116 := q 116 (by omega)
  simp only [c110, c108, c114, c98, c109, c116]
  unfold isLet
  by_cases h1 : k = 110
  · subst h1; rfl
  by_cases h2 : k = 108
  · subst h2; rfl
  by_cases h3 : k = 114
  · subst h3; rfl
  by_cases h4 : k = 98
  · subst h4; rfl
  by_cases h5 : k = 109
  · subst h5; rfl
  by_cases h6 : k = 116
  · subst h6; rfl
  rw [if_neg h1, if_neg h2, if_neg h3, if_neg h4, if_neg h5, if_neg h6, if_neg]
  simp only [decide_eq_true_eq]
  omega
