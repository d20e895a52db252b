/-! meanSpeed as a double: never NaN -/
def dokB (n : Nat) : Nat → Bool
  | 0 => true
  | s + 1 => dokB n s && decide (FP.f2d (FP.fdiv (FP.i2f (nI s)) (FP.i2f (nI n))) &&& 0x7fffffffffffffff ≤ 0x7ff0000000000000)
theorem dokB_s {n : Nat} : ∀ {m s : Nat}, dokB n m = true → s < m → FP.f2d (FP.fdiv (FP.i2f (nI s)) (FP.i2f (nI n))) &&& 0x7fffffffffffffff ≤ 0x7ff0000000000000
  | m + 1, s, h, hs => by
    rw [dokB, Bool.and_eq_true] at h
    by_cases e : s = m
    · subst e; exact of_decide_eq_true h.2
    · exact dokB_s (m := m) h.1 (by omega)
theorem dok1 : dokB 1 321 = true := by decide +kernel
theorem dok2 : dokB 2 321 = true := by decide +kernel
theorem dok3 : dokB 3 321 = true := by decide +kernel
theorem dok4 : dokB 4 321 = true := by decide +kernel
theorem dok5 : dokB 5 321 = true := by decide +kernel
theorem dok6 : dokB 6 321 = true := by decide +kernel
theorem dok7 : dokB 7 321 = true := by decide +kernel
theorem dok8 : dokB 8 321 = true := by decide +kernel
theorem dok {s n : Nat} (hs : s ≤ 320) (h1 : 1 ≤ n) (hn : n ≤ 8) : FP.f2d (FP.fdiv (FP.i2f (nI s)) (FP.i2f (nI n))) &&& 0x7fffffffffffffff ≤ 0x7ff0000000000000 := by
  obtain rfl | rfl | rfl | rfl | rfl | rfl | rfl | rfl : n = 1 ∨ n = 2 ∨ n = 3 ∨ n = 4 ∨ n = 5 ∨ n = 6 ∨ n = 7 ∨ n = 8 := by omega
  · exact dokB_s dok1 (by omega)
  · exact dokB_s dok2 (by omega)
  · exact dokB_s dok3 (by omega)
  · exact dokB_s dok4 (by omega)
  · exact dokB_s dok5 (by omega)
  · exact dokB_s dok6 (by omega)
  · exact dokB_s dok7 (by omega)
  · exact dokB_s dok8 (by omega)
theorem q_mean2 {mu : Nat → Nat → Int32} {v0 v1 v3 v4 v5 v6 : Nat → Int32} (h : Rel mu v0 v1 v3 v4 v5 v6) :
    ∃ v, f4_meanSpeed_0 mu = some v ∧ f5_meanSpeed_0 v1 v0 = some (v, upd v0 8 0) ∧ vf_n64 (FP.f2d v) := by
  obtain ⟨s, n, hs, hn, e1, e2⟩ := q_meanA h
  by_cases h0 : n = 0
  · subst h0
    refine ⟨FP.fconst0, ?_, ?_, by unfold vf_n64; decide +kernel⟩
    · rw [e1, if_pos (by decide)]
    · rw [e2, if_pos (by decide)]
  · have hz : ¬ nI n = 0 := by rw [show (0 : Int32) = nI 0 from rfl, n_eq (by omega) (by omega)]; exact h0
    have hf := fok hs (show 1 ≤ n by omega) hn
    refine ⟨_, ?_, ?_, dok hs (show 1 ≤ n by omega) hn⟩
    · rw [e1, if_neg hz]
      unfold gf
      rw [if_pos hf]
    · rw [e2, if_neg hz]
      unfold gf
      rw [if_pos hf]
