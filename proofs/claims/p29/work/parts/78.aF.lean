/-! p29: what is refused changes nothing but the buffer -/
theorem out_hi {x lo hi : Int32} (h : hi.toInt < x.toInt) : ¬ (lo ≤ x ∧ x ≤ hi) := fun q => by have := i_le.mp q.2; omega
theorem out_lo {x lo hi : Int32} (h : x.toInt < lo.toInt) : ¬ (lo ≤ x ∧ x ≤ hi) := fun q => by have := i_le.mp q.1; omega
theorem pl_I {c : Int32} {y : Nat} (hc : 0 ≤ c.toInt ∧ c.toInt ≤ 1000) (hy : y < 100000) : (c + nI y).toInt = c.toInt + (y : Int) := by
  have e : (nI y).toInt = (y : Int) := nI_toInt (by omega)
  rw [i_add] <;> rw [e] <;> omega
theorem mi_I {c : Int32} {y : Nat} (hc : -1000 ≤ c.toInt ∧ c.toInt ≤ 1000) (hy : y < 100000) : (c - nI y).toInt = c.toInt - (y : Int) := by
  have e : (nI y).toInt = (y : Int) := nI_toInt (by omega)
  rw [i_sub] <;> rw [e] <;> omega
theorem ex_bad {mu : Nat → Nat → Int32} (h : f2_isComplete_0 (mu 12) = some 0) : f6_execute_0 mu = some (-2, mu) := by
  unfold f6_execute_0 f4_execute_0
  rw [h, ob, if_pos rfl, ob, if_neg n20, if_pos rfl]
theorem rf_571 {mu : Nat → Nat → Int32} {S : Stt} (h : AS mu S) : ∃ mu', f6_refuses_571 1 mu = some (1, mu') ∧ AS mu' S := by
  obtain ⟨x, m0, e0, A0, T0, ex⟩ := cl_s h (fun _ => 0)
  obtain ⟨L, hL, h60⟩ := h.2.2.2.2.2.2
  rw [h60] at ex
  obtain ⟨m1, e1, A1, T1⟩ := ap_c (k := 59) A0 T0 (by omega) (by omega) (by omega)
  obtain ⟨y, m2, e2, A2, T2, ey⟩ := cl_s A1 (fun _ => 0)
  have hy : y = 1 := by rw [← ey, T1.2.1]; rfl
  have c0 : f2_isComplete_0 (m0 12) = some 0 := (pt_e (tx_tc T0) (d := 0) (by omega) 999).2.2 (by unfold fin; omega)
  have w := pt_w (tx_tc T1) (d := 0) (p := 0) (by omega) (by omega) (by rw [tx_tn T1 (by omega)]; show dueN 0 (cq (fun _ => 0) 0 59 0) = 12; rw [cq_s]; rfl)
  have c1 : f2_isComplete_0 (m1 12) = some 0 := (w 998).2
  have f1 : f4_firstError_0 m1 = some 0 := by
    unfold f4_firstError_0
    rw [show f2_errorIndex_0 (m1 12) = some 0 from (w 999).1, ob]
  have e1' : f6_append_0 59 m0 = some (1, m1) := e1
  refine ⟨m2, ?_, A2⟩
  unfold f6_refuses_571 f6_refuses_637
  rw [e0, ob, if_neg n10, if_neg (show ¬ x < 0 by rw [← ex]; exact nI_n0 (by omega)), ex_bad c0, ob, if_pos rfl, e1', ob, if_pos rfl, f1, ob, if_pos rfl, ex_bad c1, ob, if_pos rfl, e2, ob, if_pos hy, gz_1]
theorem rf_566 {mu : Nat → Nat → Int32} {S : Stt} (h : AS mu S) : ∃ mu', f6_refuses_566 mu = some (1, mu') ∧ AS mu' S := rf_571 h
theorem rf_459 {mu : Nat → Nat → Int32} {S : Stt} {N y : Nat} (h : AS mu S) (hN : N ≤ 8) (hw : S.1 162 = nI N) (hy : y < 100000) : ∃ mu', f6_refuses_459 (nI y) (nI N) 1 mu = some (1, mu') ∧ AS mu' S := by
  unfold f6_refuses_459
  rw [if_neg n10]
  by_cases h0 : N = 0
  · subst h0
    rw [if_pos (show nI 0 = 0 from rfl)]
    exact rf_566 h
  · rw [if_neg (show ¬ nI N = 0 by rw [show (0 : Int32) = nI 0 from rfl, n_eq (by omega) (by omega)]; exact h0)]
    have k0 : (0 : Int32) ≤ 0 ∧ (0 : Int32) < nI N := ⟨Int32.le_refl _, by rw [show (0 : Int32) = nI 0 from rfl, n_lt (by omega) (by omega)]; omega⟩
    have c00 : f6_carOf_0 mu 0 0 = some (S.1 (90 + 9 * 0 + 0)) := cr_s (c := 0) (j := 0) h hN hw (by omega) (by omega)
    have c10 : f6_carOf_0 mu 0 (10 + nI y) = some (-2) := cr_bad (c := 0) h hN hw (by omega) (out_hi (by rw [pl_I (by decide) hy]; show (9 : Int) < 10 + (y : Int); omega))
    have go : ∃ mu', f6_refuses_546 mu = some (1, mu') ∧ AS mu' S := by
      unfold f6_refuses_546
      rw [c00, ob]
      by_cases s0 : S.1 (90 + 9 * 0 + 0) = 0
      · rw [if_pos s0]; exact rf_566 h
      · have l4 : f6_load_0 0 1 mu = some (-4, mu) := bl_s4 (k := 0) h hN hw (by omega) ⟨by decide, by decide⟩ (fun q => s0 q.1)
        rw [if_neg s0, l4, ob, if_pos rfl]
        exact rf_566 h
    rw [bl_a h hN hw k0 (out_hi (by rw [pl_I (by decide) hy]; show (20 : Int) < 21 + (y : Int); omega)), ob, if_pos rfl,
      br_a h hN hw k0 (out_hi (by rw [pl_I (by decide) hy]; show (9 : Int) < 10 + (y : Int); omega)), ob, if_pos rfl,
      bb_a h hN hw k0 (out_lo (by rw [mi_I (by decide) hy]; show -1 - (y : Int) < 0; omega)), ob, if_pos rfl, c10, ob, if_pos rfl, c00, ob]
    by_cases s1 : S.1 (90 + 9 * 0 + 0) = 1
    · rw [if_pos s1]; exact go
    · have b4 : f6_brake_0 0 1 mu = some (-4, mu) := bb_s4 (k := 0) h hN hw (by omega) ⟨by decide, by decide⟩ s1
      rw [if_neg s1, b4, ob, if_pos rfl]
      exact go
theorem rf_119 {mu : Nat → Nat → Int32} {S : Stt} {N y : Nat} {x3 : Int32} (h : AS mu S) (hN : N ≤ 8) (hw : S.1 162 = nI N) (hy : y < 100000) (h3 : ¬ (0 ≤ x3 ∧ x3 < nI N)) : ∃ mu', f6_refuses_119 (nI y) (nI N) x3 mu = some (1, mu') ∧ AS mu' S := by
  have lo0 : ∀ {hi : Int32}, ¬ (0 ≤ -1 - nI y ∧ -1 - nI y ≤ hi) := fun {hi} => out_lo (by rw [mi_I (by decide) hy]; show -1 - (y : Int) < 0; omega)
  have lt0 : -1 - nI y < 0 := by rw [i_lt, mi_I (by decide) hy]; show -1 - (y : Int) < 0; omega
  have s1 : f6_set_0 0 (6 + nI y) mu = some (-2, mu) := bt_a (i := 0) (by omega) (out_hi (by rw [pl_I (by decide) hy]; show (5 : Int) < 6 + (y : Int); omega))
  have s2 : f6_set_0 1 0 mu = some (-2, mu) := bt_a (i := 1) (by omega) (by decide)
  have s3 : f6_set_0 2 (-1 - nI y) mu = some (-2, mu) := bt_a (i := 2) (by omega) (by exact lo0)
  have t1 : f6_section_0 mu 3 (5 + nI y) = some (-2) := se_bad (p := 3) (by omega) (out_hi (by rw [pl_I (by decide) hy]; show (4 : Int) < 5 + (y : Int); omega))
  unfold f6_refuses_119
  rw [bl_i h hN hw h3, ob, if_pos rfl, br_i h hN hw h3, ob, if_pos rfl, bb_i h hN hw h3, ob, if_pos rfl, bp_i h hN hw h3, ob, if_pos rfl,
    bt_i (out_hi (by rw [pl_I (by decide) hy]; show (2 : Int) < 3 + (y : Int); omega)), ob, if_pos rfl, s1, ob, if_pos rfl, s2, ob, if_pos rfl, s3, ob, if_pos rfl,
    bu_a (by decide), ob, if_pos rfl, bu_a (out_hi (by rw [pl_I (by decide) hy]; show (60 : Int) < 61 + (y : Int); omega)), ob, if_pos rfl,
    ba_a (out_lo (by rw [mi_I (by decide) hy]; show 32 - (y : Int) < 33; omega)), ob, if_pos rfl, ba_a (out_hi (by rw [pl_I (by decide) hy]; show (126 : Int) < 127 + (y : Int); omega)), ob, if_pos rfl,
    bk_a (out_hi (by rw [pl_I (by decide) hy]; show (1 : Int) < 2 + (y : Int); omega)), ob, if_pos rfl, bo_a lo0, ob, if_pos rfl, se_no lo0, ob, if_pos rfl, t1, ob, if_pos rfl,
    cr_no h hN hw h3, ob, if_pos rfl, ca_bad (out_hi (by rw [pl_I (by decide) hy]; show (4 : Int) < 5 + (y : Int); omega)), ob, if_pos rfl, ro_bad lt0, ob, if_pos rfl,
    cn_bad (out_hi (by rw [pl_I (by decide) hy]; show (13 : Int) < 14 + (y : Int); omega)), ob, if_pos rfl, re_no h hN hw h3, ob, if_pos rfl,
    bi_1 (out_hi (by rw [pl_I (by decide) hy]; show (20 : Int) < 21 + (y : Int); omega)), ob, if_pos rfl, bi_2 (by decide) lo0, ob, if_pos rfl, be_a lo0, ob, if_pos rfl,
    bf_1 (by decide), ob, if_pos rfl, bf_1 (out_hi (by rw [pl_I (by decide) hy]; show (200 : Int) < 201 + (y : Int); omega)), ob, if_pos rfl,
    bf_2 (by decide) (out_hi (by rw [pl_I (by decide) hy]; show (4 : Int) < 5 + (y : Int); omega)), ob, if_pos rfl]
  exact rf_459 h hN hw hy
theorem rf_21 {mu : Nat → Nat → Int32} {S : Stt} {N y : Nat} {x3 : Int32} (h : AS mu S) (hN : N ≤ 8) (hw : S.1 162 = nI N) (hy : y < 100000) (h3 : ¬ (0 ≤ x3 ∧ x3 < nI N)) : ∃ mu', f6_refuses_21 (nI y) (nI N) x3 mu = some (1, mu') ∧ AS mu' S := by
  have lo0 : ∀ {hi : Int32}, ¬ (0 ≤ -1 - nI y ∧ -1 - nI y ≤ hi) := fun {hi} => out_lo (by rw [mi_I (by decide) hy]; show -1 - (y : Int) < 0; omega)
  unfold f6_refuses_21
  rw [bg_i (out_hi (by rw [pl_I (by decide) hy]; show (29 : Int) < 30 + (y : Int); omega)), ob, if_pos rfl, bg_a (by decide) (out_hi (by rw [pl_I (by decide) hy]; show (9 : Int) < 10 + (y : Int); omega)), ob, if_pos rfl,
    bs_i (by decide), ob, if_pos rfl, bs_i (out_hi (by rw [pl_I (by decide) hy]; show (29 : Int) < 30 + (y : Int); omega)), ob, if_pos rfl,
    bs_a (by decide) (out_hi (by rw [pl_I (by decide) hy]; show (40 : Int) < 41 + (y : Int); omega)), ob, if_pos rfl, bs_a (by decide) lo0, ob, if_pos rfl]
  by_cases h8 : N = 8
  · subst h8
    rw [if_neg (show ¬ nI 8 < 8 by decide), bc_8 h hw, ob, if_pos rfl]
    exact rf_119 h hN hw hy h3
  · rw [if_pos (show nI N < 8 by rw [show (8 : Int32) = nI 8 from rfl, n_lt (by omega) (by omega)]; omega)]
    exact rf_119 h hN hw hy h3
theorem g_refuses {mu : Nat → Nat → Int32} {S : Stt} {B : Int} {y : Nat} (h : AS mu S) (hJ : JS B S) (hy : y < 100000) : ∃ mu', f6_refuses_0 (nI y) mu = some (1, mu') ∧ AS mu' S := by
  obtain ⟨N, hN⟩ := hJ.1
  have hN8 := hN.2.1
  have hw := hN.2.2.1
  have cn : f6_count_0 mu 1 = some (nI N) := (cn_s (j := 1) h hN8 hw (by omega) (by omega)).trans (congrArg some hw)
  unfold f6_refuses_0
  rw [cn, ob]
  by_cases e : rmI (nI y) 2 = 0
  · rw [if_pos e]
    exact rf_21 h hN8 hw hy (fun q => by rw [show nI N + nI y = nI (N + y) from nI_add N y, n_lt (by omega) (by omega)] at q; omega)
  · rw [if_neg e]
    exact rf_21 h hN8 hw hy (fun q => by have := i_le.mp q.1; rw [mi_I (by decide) hy, show (0 : Int32).toInt = 0 from rfl, show (-1 : Int32).toInt = -1 from rfl] at this; omega)
