/-! meanSpeed: never NaN -/
def fokB (n : Nat) : Nat → Bool
  | 0 => true
  | s + 1 => fokB n s && decide (FP.fdiv (FP.i2f (nI s)) (FP.i2f (nI n)) &&& 0x7fffffff ≤ 0x7f800000)
theorem fokB_s {n : Nat} : ∀ {m s : Nat}, fokB n m = true → s < m → FP.fdiv (FP.i2f (nI s)) (FP.i2f (nI n)) &&& 0x7fffffff ≤ 0x7f800000
  | m + 1, s, h, hs => by
    rw [fokB, Bool.and_eq_true] at h
    by_cases e : s = m
    · subst e; exact of_decide_eq_true h.2
    · exact fokB_s (m := m) h.1 (by omega)
set_option maxRecDepth 100000 in
theorem fok1 : fokB 1 321 = true := by decide
set_option maxRecDepth 100000 in
theorem fok2 : fokB 2 321 = true := by decide
set_option maxRecDepth 100000 in
theorem fok3 : fokB 3 321 = true := by decide
set_option maxRecDepth 100000 in
theorem fok4 : fokB 4 321 = true := by decide
set_option maxRecDepth 100000 in
theorem fok5 : fokB 5 321 = true := by decide
set_option maxRecDepth 100000 in
theorem fok6 : fokB 6 321 = true := by decide
set_option maxRecDepth 100000 in
theorem fok7 : fokB 7 321 = true := by decide
set_option maxRecDepth 100000 in
theorem fok8 : fokB 8 321 = true := by decide
theorem fok {s n : Nat} (hs : s ≤ 320) (h1 : 1 ≤ n) (hn : n ≤ 8) : FP.fdiv (FP.i2f (nI s)) (FP.i2f (nI n)) &&& 0x7fffffff ≤ 0x7f800000 := by
  obtain rfl | rfl | rfl | rfl | rfl | rfl | rfl | rfl : n = 1 ∨ n = 2 ∨ n = 3 ∨ n = 4 ∨ n = 5 ∨ n = 6 ∨ n = 7 ∨ n = 8 := by omega
  · exact fokB_s fok1 (by omega)
  · exact fokB_s fok2 (by omega)
  · exact fokB_s fok3 (by omega)
  · exact fokB_s fok4 (by omega)
  · exact fokB_s fok5 (by omega)
  · exact fokB_s fok6 (by omega)
  · exact fokB_s fok7 (by omega)
  · exact fokB_s fok8 (by omega)
theorem q_mean {mu : Nat → Nat → Int32} {v0 v1 v3 v4 v5 v6 : Nat → Int32} (h : Rel mu v0 v1 v3 v4 v5 v6) :
    ∃ v, f4_meanSpeed_0 mu = some v ∧ f5_meanSpeed_0 v1 v0 = some (v, upd v0 8 0) ∧ v &&& 0x7fffffff ≤ 0x7f800000 := by
  obtain ⟨s, n, hs, hn, e1, e2⟩ := q_meanA h
  by_cases h0 : n = 0
  · subst h0
    refine ⟨FP.fconst0, ?_, ?_, by decide⟩
    · rw [e1, if_pos (by decide)]
    · rw [e2, if_pos (by decide)]
  · have hz : ¬ nI n = 0 := by rw [show (0 : Int32) = nI 0 from rfl, n_eq (by omega) (by omega)]; exact h0
    have hf := fok hs (show 1 ≤ n by omega) hn
    refine ⟨_, ?_, ?_, hf⟩
    · rw [e1, if_neg hz]
      unfold gf
      rw [if_pos hf]
    · rw [e2, if_neg hz]
      unfold gf
      rw [if_pos hf]
