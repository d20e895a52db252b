/-! meanSpeed: never NaN -/
theorem fok1 : ∀ s : Fin 8, FP.fdiv (FP.i2f (nI s.val)) (FP.i2f (nI 3)) &&& 0x7fffffff ≤ 0x7f800000 := by decide
