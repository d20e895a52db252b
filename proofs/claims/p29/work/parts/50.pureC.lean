/-! copies -/
theorem s9_blk {q src : Nat → Int32} {c i : Nat} (h : 90 + 9 * c ≤ i) (h2 : i < 90 + 9 * c + 9) : s9 q c (src (90 + 9 * c + 0)) (src (90 + 9 * c + 1)) (src (90 + 9 * c + 2)) (src (90 + 9 * c + 3)) (src (90 + 9 * c + 4)) (src (90 + 9 * c + 5)) (src (90 + 9 * c + 6)) (src (90 + 9 * c + 7)) (src (90 + 9 * c + 8)) i = src i := by
  obtain rfl | rfl | rfl | rfl | rfl | rfl | rfl | rfl | rfl : i = 90 + 9 * c + 0 ∨ i = 90 + 9 * c + 1 ∨ i = 90 + 9 * c + 2 ∨ i = 90 + 9 * c + 3 ∨ i = 90 + 9 * c + 4 ∨ i = 90 + 9 * c + 5 ∨ i = 90 + 9 * c + 6 ∨ i = 90 + 9 * c + 7 ∨ i = 90 + 9 * c + 8 := by omega
  · rw [s9_r0]
  · rw [s9_r1]
  · rw [s9_r2]
  · rw [s9_r3]
  · rw [s9_r4]
  · rw [s9_r5]
  · rw [s9_r6]
  · rw [s9_r7]
  · rw [s9_r8]
theorem cp_s {src dst : Nat → Int32} : ∃ r, f3_copyFrom_0 src dst = some r ∧ ∀ i, r i = if i < 171 then src i else dst i := by
  unfold f3_copyFrom_0
  refine lp_p (σ := Nat → Int32) (L := fun n s j => f3_copyFrom_61 src n j s) (N := 8) (P := fun j s => ∀ i, s i = if i < 90 ∨ 168 ≤ i ∧ i < 171 ∨ 90 ≤ i ∧ i < 90 + 9 * j then src i else dst i) (Q := fun r => ∀ i, r i = if i < 171 then src i else dst i) ?_ ?_ 8 fu 0 _ rfl (by omega) ?_ (by rw [fu_eq]; omega)
  · intro n s c hc hs
    have h8 : ¬ (8 : Int32) ≤ nI c := by rw [show (8 : Int32) = nI 8 from rfl, n_le (by omega) (by omega)]; omega
    refine ⟨s9 s c (src (90 + 9 * c + 0)) (src (90 + 9 * c + 1)) (src (90 + 9 * c + 2)) (src (90 + 9 * c + 3)) (src (90 + 9 * c + 4)) (src (90 + 9 * c + 5)) (src (90 + 9 * c + 6)) (src (90 + 9 * c + 7)) (src (90 + 9 * c + 8)), ?_, ?_⟩
    · intro i
      by_cases hi : 90 + 9 * c ≤ i ∧ i < 90 + 9 * c + 9
      · rw [s9_blk hi.1 hi.2, if_pos (by omega)]
      · rw [s9_o (by omega), hs i]
        by_cases hb : i < 90 ∨ 168 ≤ i ∧ i < 171 ∨ 90 ≤ i ∧ i < 90 + 9 * c
        · rw [if_pos hb, if_pos (by omega)]
        · rw [if_neg hb, if_neg (by omega)]
    · show f3_copyFrom_61 src (n + 1) (nI c) s = _
      simp (disch := omega) only [f3_copyFrom_61, if_neg h8, gd_n, cl_n, ad_1]
      rfl
  · intro n s hs
    refine ⟨upd (upd (upd (upd (upd (upd s 162 (src 162)) 163 (src 163)) 164 (src 164)) 165 (src 165)) 166 (src 166)) 167 (src 167), ?_, ?_⟩
    · show f3_copyFrom_61 src (n + 1) (nI 8) s = _
      simp only [f3_copyFrom_61, if_pos (show (8 : Int32) ≤ nI 8 by decide)]
      rfl
    · intro i
      by_cases e7 : i = 167
      · subst e7; rw [upd_s, if_pos (by omega)]
      rw [upd_n e7]
      by_cases e6 : i = 166
      · subst e6; rw [upd_s, if_pos (by omega)]
      rw [upd_n e6]
      by_cases e5 : i = 165
      · subst e5; rw [upd_s, if_pos (by omega)]
      rw [upd_n e5]
      by_cases e4 : i = 164
      · subst e4; rw [upd_s, if_pos (by omega)]
      rw [upd_n e4]
      by_cases e3 : i = 163
      · subst e3; rw [upd_s, if_pos (by omega)]
      rw [upd_n e3]
      by_cases e2 : i = 162
      · subst e2; rw [upd_s, if_pos (by omega)]
      rw [upd_n e2, hs i]
      by_cases hb : i < 171
      · rw [if_pos hb, if_pos (by omega)]
      · rw [if_neg hb, if_neg (by omega)]
  · intro i
    unfold bl
    by_cases e1 : 168 ≤ i ∧ i < 168 + 3
    · rw [if_pos e1, if_pos (by omega)]
    rw [if_neg e1]
    by_cases e2 : 60 ≤ i ∧ i < 60 + 30
    · rw [if_pos e2, if_pos (by omega)]
    rw [if_neg e2]
    by_cases e3 : 30 ≤ i ∧ i < 30 + 30
    · rw [if_pos e3, if_pos (by omega)]
    rw [if_neg e3]
    by_cases e4 : 0 ≤ i ∧ i < 0 + 30
    · rw [if_pos e4, if_pos (by omega)]
    · rw [if_neg e4, if_neg (by omega)]
theorem inv_z {w : Nat → Int32} (h : Inv w) {i : Nat} (hi : 171 ≤ i) : w i = 0 := h.2.2.2.2.2.2 i hi
theorem cp_i {src dst : Nat → Int32} (h : Inv src) (h2 : Inv dst) : f3_copyFrom_0 src dst = some src := by
  obtain ⟨r, e, hr⟩ := cp_s (src := src) (dst := dst)
  rw [e]
  congr 1
  funext i
  rw [hr i]
  by_cases hi : i < 171
  · rw [if_pos hi]
  · rw [if_neg hi, inv_z h (by omega), inv_z h2 (by omega)]
theorem c171 : (171 : Int32) = nI 171 := rfl
/-- a row of the model copied from another, both in one piece -/
theorem row_eq {s w : Nat → Int32} (hs : Inv s) (h1 : ∀ i, i < 171 → w i = s i) (h2 : ∀ i, 171 ≤ i → w i = 0) : w = s := by
  funext i
  by_cases hi : i < 171
  · exact h1 i hi
  · rw [h2 i (by omega), inv_z hs (by omega)]
theorem pa_s {v1 v2 : Nat → Int32} : ∃ r, f5_putAside_0 v1 v2 = some r ∧ ∀ i, i < 171 → r i = v1 i := by
  unfold f5_putAside_0
  refine lp_p (σ := Nat → Int32) (L := fun n s j => f5_putAside_2 v1 n j s) (N := 171) (P := fun j s => ∀ i, i < j → s i = v1 i) (Q := fun r => ∀ i, i < 171 → r i = v1 i) ?_ ?_ 171 fu 0 _ rfl (by omega) (fun i hi => by omega) (by rw [fu_eq]; omega)
  · intro n s j hj hs
    have h8 : ¬ (171 : Int32) ≤ nI j := by rw [c171, n_le (by omega) (by omega)]; omega
    refine ⟨upd s j (v1 j), ?_, ?_⟩
    · intro i hi
      by_cases e : i = j
      · subst e; exact upd_s
      · rw [upd_n e]; exact hs i (by omega)
    · show f5_putAside_2 v1 (n + 1) (nI j) s = _
      simp (disch := omega) only [f5_putAside_2, if_neg h8, gd_n, cl_n, ad_1]
  · intro n s hs
    refine ⟨s, ?_, hs⟩
    show f5_putAside_2 v1 (n + 1) (nI 171) s = _
    simp only [f5_putAside_2, if_pos (show (171 : Int32) ≤ nI 171 by decide)]
theorem pb_s {s v2 v1 : Nat → Int32} (hs : Inv s) (h2 : ∀ i, i < 171 → v2 i = s i) (h1 : Inv v1) : f5_putBack_0 v2 v1 = some s := by
  unfold f5_putBack_0
  obtain ⟨a, e, ha⟩ := lp_p (σ := Nat → Int32) (L := fun n s j => f5_putBack_2 v2 n j s) (N := 171) (P := fun j w => (∀ i, i < j → w i = s i) ∧ (∀ i, 171 ≤ i → w i = 0)) (Q := fun r => r = s) (by
    intro n w j hj hw
    have h8 : ¬ (171 : Int32) ≤ nI j := by rw [c171, n_le (by omega) (by omega)]; omega
    refine ⟨upd w j (v2 j), ⟨?_, ?_⟩, ?_⟩
    · intro i hi
      by_cases e : i = j
      · subst e; rw [upd_s]; exact h2 i hj
      · rw [upd_n e]; exact hw.1 i (by omega)
    · intro i hi
      rw [upd_n (by omega)]
      exact hw.2 i hi
    · show f5_putBack_2 v2 (n + 1) (nI j) w = _
      simp (disch := omega) only [f5_putBack_2, if_neg h8, gd_n, cl_n, ad_1]) (by
    intro n w hw
    refine ⟨w, ?_, row_eq hs hw.1 hw.2⟩
    show f5_putBack_2 v2 (n + 1) (nI 171) w = _
    simp only [f5_putBack_2, if_pos (show (171 : Int32) ≤ nI 171 by decide)]) 171 fu 0 v1 rfl (by omega) ⟨fun i hi => by omega, fun i hi => inv_z h1 hi⟩ (by rw [fu_eq]; omega)
  rw [← ha]
  exact e
