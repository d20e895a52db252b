/-! the constructors: what they lay -/
theorem dfX0 : ∀ j, j < 9 → defaultValue (tyX0 j) = vp_V [.int 0, .int 0, .int 0, .int 0, .int 0, .int 0, .int 0, .int 0, .int 0] j := by
  intro j hj
  rcases (show j = 0 ∨ j = 1 ∨ j = 2 ∨ j = 3 ∨ j = 4 ∨ j = 5 ∨ j = 6 ∨ j = 7 ∨ j = 8 by omega) with rfl | rfl | rfl | rfl | rfl | rfl | rfl | rfl | rfl <;> rfl
theorem dfX1 : ∀ j, j < 3 → defaultValue (tyX1 j) = vp_V [.null, .int 0, .int 0] j := by
  intro j hj
  rcases (show j = 0 ∨ j = 1 ∨ j = 2 by omega) with rfl | rfl | rfl <;> rfl
theorem dfX2 : ∀ j, j < 2 → defaultValue (tyX2 j) = vp_V [.null, .int 0] j := by
  intro j hj
  rcases (show j = 0 ∨ j = 1 by omega) with rfl | rfl <;> rfl
theorem dfX3 : ∀ j, j < 12 → defaultValue (tyX3 j) = vp_V [.null, .null, .null, .null, .null, .null, .int 0, .int 0, .int 0, .int 0, .int 0, .int 0] j := by
  intro j hj
  rcases (show j = 0 ∨ j = 1 ∨ j = 2 ∨ j = 3 ∨ j = 4 ∨ j = 5 ∨ j = 6 ∨ j = 7 ∨ j = 8 ∨ j = 9 ∨ j = 10 ∨ j = 11 by omega) with rfl | rfl | rfl | rfl | rfl | rfl | rfl | rfl | rfl | rfl | rfl | rfl <;> rfl
theorem dfX4 : ∀ j, j < 6 → defaultValue (tyX4 j) = vp_V [.null, .null, .null, .null, .null, .null] j := by
  intro j hj
  rcases (show j = 0 ∨ j = 1 ∨ j = 2 ∨ j = 3 ∨ j = 4 ∨ j = 5 by omega) with rfl | rfl | rfl | rfl | rfl | rfl <;> rfl
def gfl (j : Nat) : Nat → Int32 := fun i => if i < j then 3 else 0
theorem gf_0 : gfl 0 = fun _ => 0 := by
  funext i
  exact if_neg (by omega)
theorem gf_u {j : Nat} : upd (gfl j) j 3 = gfl (j + 1) := by
  funext i
  by_cases e : i = j
  · subst e
    rw [upd_s]
    exact (if_pos (by omega)).symm
  · rw [upd_n e]
    unfold gfl
    by_cases h : i < j
    · rw [if_pos h, if_pos (by omega)]
    · rw [if_neg h, if_neg (by omega)]
theorem eu_eu {E : Nat → va_E} {k : Nat} {x y : va_E} : eu (eu E k x) k y = eu E k y := by
  funext r
  by_cases e : r = k
  · subst e; rw [eu_s, eu_s]
  · rw [eu_n e, eu_n e, eu_n e]
def s0 : Nat → Int32 := fun i => if i < 30 then 3 else if i = 168 then 2 else if i = 169 then 6 else if i = 170 then 1 else 0
theorem b_one {D : va_G} {n : Nat} {x : va_E} {s : State} (h1 : s.heap.size = n + 1) (h2 : va_at D vwCl (n, x) s.heap) : bH D (fun _ => x) n 1 s s.heap [] := by
  refine ⟨⟨h1, fun r hr => ?_⟩, va_S.rf⟩
  obtain rfl : r = 0 := by omega
  exact h2
theorem b_end {D : va_G} {G : Nat → va_E} {n d : Nat} {s t : State} {H : Heap} {locs : List Loc} (ht : t.heap = H) (h : bH D G n d s H locs) : t.heap.size = n + d ∧ ∀ r, r < d → va_at D vwCl (n + r, G r) t.heap := by
  rw [ht]
  exact h.1
def lE (xs : List va_E) : Nat → va_E := fun r => xs.getD r (.inr (0, []))
theorem cu_1 : cut 30 0 s0 = gfl 30 := by
  funext i
  unfold cut gfl s0
  by_cases h : i < 30
  · rw [if_pos h, if_pos h, if_pos (by omega)]
  · rw [if_neg h, if_neg h]
theorem cu_2 : cut 30 30 s0 = fun _ => 0 := by
  funext i
  unfold cut s0
  by_cases h : i < 30
  · rw [if_pos h, if_neg (by omega), if_neg (by omega), if_neg (by omega), if_neg (by omega)]
  · rw [if_neg h]
theorem cu_3 : cut 30 60 s0 = fun _ => 0 := by
  funext i
  unfold cut s0
  by_cases h : i < 30
  · rw [if_pos h, if_neg (by omega), if_neg (by omega), if_neg (by omega), if_neg (by omega)]
  · rw [if_neg h]
theorem cu_4 : cut 3 168 s0 = upd (upd (upd (fun _ => 0) 0 2) 1 6) 2 1 := by
  funext i
  by_cases h : i < 3
  · rcases (show i = 0 ∨ i = 1 ∨ i = 2 by omega) with rfl | rfl | rfl <;> rfl
  · rw [upd_n (by omega), upd_n (by omega), upd_n (by omega)]
    exact if_neg h
theorem cu_0 {n o : Nat} : cut n o (fun _ => 0) = fun _ => 0 := by
  funext i
  unfold cut
  rw [ite_self]
theorem cu_s : upd (upd (upd (gfl 30) 168 2) 169 6) 170 1 = s0 := by
  funext i
  by_cases h1 : i = 170
  · subst h1; rfl
  · rw [upd_n h1]
    by_cases h2 : i = 169
    · subst h2; rfl
    · rw [upd_n h2]
      by_cases h3 : i = 168
      · subst h3; rfl
      · rw [upd_n h3]
        unfold gfl s0
        by_cases h : i < 30
        · rw [if_pos h, if_pos h]
        · rw [if_neg h, if_neg h, if_neg h3, if_neg h2, if_neg h1]
theorem cu_5 (n : Nat) : (fun i => if i < 8 then some (n + (0 + (i + 7))) else none) = va_up (va_up (va_up (va_up (va_up (va_up (va_up (va_up (fun _ => none) 0 (some (n + 7))) 1 (some (n + 8))) 2 (some (n + 9))) 3 (some (n + 10))) 4 (some (n + 11))) 5 (some (n + 12))) 6 (some (n + 13))) 7 (some (n + 14)) := by
  funext i
  by_cases h : i < 8
  · rcases (show i = 0 ∨ i = 1 ∨ i = 2 ∨ i = 3 ∨ i = 4 ∨ i = 5 ∨ i = 6 ∨ i = 7 by omega) with rfl | rfl | rfl | rfl | rfl | rfl | rfl | rfl <;> rfl
  · rw [if_neg h, va_up_ne _ _ (by omega), va_up_ne _ _ (by omega), va_up_ne _ _ (by omega), va_up_ne _ _ (by omega), va_up_ne _ _ (by omega), va_up_ne _ _ (by omega), va_up_ne _ _ (by omega), va_up_ne _ _ (by omega)]
