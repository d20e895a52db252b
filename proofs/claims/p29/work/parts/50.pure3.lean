/-! a car's nine cells at once -/
def s9 (w : Nat → Int32) (c : Nat) (a0 a1 a2 a3 a4 a5 a6 a7 a8 : Int32) : Nat → Int32 :=
  (upd (upd (upd (upd (upd (upd (upd (upd (upd w (90 + 9 * c + 0) a0) (90 + 9 * c + 1) a1) (90 + 9 * c + 2) a2) (90 + 9 * c + 3) a3) (90 + 9 * c + 4) a4) (90 + 9 * c + 5) a5) (90 + 9 * c + 6) a6) (90 + 9 * c + 7) a7) (90 + 9 * c + 8) a8)
section
variable {w : Nat → Int32} {c : Nat} {a0 a1 a2 a3 a4 a5 a6 a7 a8 x : Int32}
theorem s9_r0 : s9 w c a0 a1 a2 a3 a4 a5 a6 a7 a8 (90 + 9 * c + 0) = a0 := by unfold s9; simp (disch := omega) only [upd_s, upd_n]
theorem s9_r1 : s9 w c a0 a1 a2 a3 a4 a5 a6 a7 a8 (90 + 9 * c + 1) = a1 := by unfold s9; simp (disch := omega) only [upd_s, upd_n]
theorem s9_r2 : s9 w c a0 a1 a2 a3 a4 a5 a6 a7 a8 (90 + 9 * c + 2) = a2 := by unfold s9; simp (disch := omega) only [upd_s, upd_n]
theorem s9_r3 : s9 w c a0 a1 a2 a3 a4 a5 a6 a7 a8 (90 + 9 * c + 3) = a3 := by unfold s9; simp (disch := omega) only [upd_s, upd_n]
theorem s9_r4 : s9 w c a0 a1 a2 a3 a4 a5 a6 a7 a8 (90 + 9 * c + 4) = a4 := by unfold s9; simp (disch := omega) only [upd_s, upd_n]
theorem s9_r5 : s9 w c a0 a1 a2 a3 a4 a5 a6 a7 a8 (90 + 9 * c + 5) = a5 := by unfold s9; simp (disch := omega) only [upd_s, upd_n]
theorem s9_r6 : s9 w c a0 a1 a2 a3 a4 a5 a6 a7 a8 (90 + 9 * c + 6) = a6 := by unfold s9; simp (disch := omega) only [upd_s, upd_n]
theorem s9_r7 : s9 w c a0 a1 a2 a3 a4 a5 a6 a7 a8 (90 + 9 * c + 7) = a7 := by unfold s9; simp (disch := omega) only [upd_s, upd_n]
theorem s9_r8 : s9 w c a0 a1 a2 a3 a4 a5 a6 a7 a8 (90 + 9 * c + 8) = a8 := by unfold s9; simp (disch := omega) only [upd_s, upd_n]
theorem s9_o {i : Nat} (h : i < 90 + 9 * c ∨ 90 + 9 * c + 9 ≤ i) : s9 w c a0 a1 a2 a3 a4 a5 a6 a7 a8 i = w i := by unfold s9; simp (disch := omega) only [upd_n]
theorem s9_u0 : upd (s9 w c a0 a1 a2 a3 a4 a5 a6 a7 a8) (90 + 9 * c + 0) x = s9 w c x a1 a2 a3 a4 a5 a6 a7 a8 := by
  funext i
  by_cases h : i = 90 + 9 * c + 0
  · subst h; unfold s9; simp (disch := omega) only [upd_s, upd_n]
  · rw [upd_n h]; unfold s9; simp only [upd, if_neg h]
theorem s9_u1 : upd (s9 w c a0 a1 a2 a3 a4 a5 a6 a7 a8) (90 + 9 * c + 1) x = s9 w c a0 x a2 a3 a4 a5 a6 a7 a8 := by
  funext i
  by_cases h : i = 90 + 9 * c + 1
  · subst h; unfold s9; simp (disch := omega) only [upd_s, upd_n]
  · rw [upd_n h]; unfold s9; simp only [upd, if_neg h]
theorem s9_u2 : upd (s9 w c a0 a1 a2 a3 a4 a5 a6 a7 a8) (90 + 9 * c + 2) x = s9 w c a0 a1 x a3 a4 a5 a6 a7 a8 := by
  funext i
  by_cases h : i = 90 + 9 * c + 2
  · subst h; unfold s9; simp (disch := omega) only [upd_s, upd_n]
  · rw [upd_n h]; unfold s9; simp only [upd, if_neg h]
theorem s9_u3 : upd (s9 w c a0 a1 a2 a3 a4 a5 a6 a7 a8) (90 + 9 * c + 3) x = s9 w c a0 a1 a2 x a4 a5 a6 a7 a8 := by
  funext i
  by_cases h : i = 90 + 9 * c + 3
  · subst h; unfold s9; simp (disch := omega) only [upd_s, upd_n]
  · rw [upd_n h]; unfold s9; simp only [upd, if_neg h]
theorem s9_u4 : upd (s9 w c a0 a1 a2 a3 a4 a5 a6 a7 a8) (90 + 9 * c + 4) x = s9 w c a0 a1 a2 a3 x a5 a6 a7 a8 := by
  funext i
  by_cases h : i = 90 + 9 * c + 4
  · subst h; unfold s9; simp (disch := omega) only [upd_s, upd_n]
  · rw [upd_n h]; unfold s9; simp only [upd, if_neg h]
theorem s9_u5 : upd (s9 w c a0 a1 a2 a3 a4 a5 a6 a7 a8) (90 + 9 * c + 5) x = s9 w c a0 a1 a2 a3 a4 x a6 a7 a8 := by
  funext i
  by_cases h : i = 90 + 9 * c + 5
  · subst h; unfold s9; simp (disch := omega) only [upd_s, upd_n]
  · rw [upd_n h]; unfold s9; simp only [upd, if_neg h]
theorem s9_u6 : upd (s9 w c a0 a1 a2 a3 a4 a5 a6 a7 a8) (90 + 9 * c + 6) x = s9 w c a0 a1 a2 a3 a4 a5 x a7 a8 := by
  funext i
  by_cases h : i = 90 + 9 * c + 6
  · subst h; unfold s9; simp (disch := omega) only [upd_s, upd_n]
  · rw [upd_n h]; unfold s9; simp only [upd, if_neg h]
theorem s9_u7 : upd (s9 w c a0 a1 a2 a3 a4 a5 a6 a7 a8) (90 + 9 * c + 7) x = s9 w c a0 a1 a2 a3 a4 a5 a6 x a8 := by
  funext i
  by_cases h : i = 90 + 9 * c + 7
  · subst h; unfold s9; simp (disch := omega) only [upd_s, upd_n]
  · rw [upd_n h]; unfold s9; simp only [upd, if_neg h]
theorem s9_u8 : upd (s9 w c a0 a1 a2 a3 a4 a5 a6 a7 a8) (90 + 9 * c + 8) x = s9 w c a0 a1 a2 a3 a4 a5 a6 a7 x := by
  funext i
  by_cases h : i = 90 + 9 * c + 8
  · subst h; unfold s9; simp (disch := omega) only [upd_s, upd_n]
  · rw [upd_n h]; unfold s9; simp only [upd, if_neg h]
theorem s9_uo {i : Nat} (h : i < 90 + 9 * c ∨ 90 + 9 * c + 9 ≤ i) : upd (s9 w c a0 a1 a2 a3 a4 a5 a6 a7 a8) i x = s9 (upd w i x) c a0 a1 a2 a3 a4 a5 a6 a7 a8 := by
  funext j
  by_cases e : j = i
  · subst e; rw [upd_s, s9_o h, upd_s]
  · rw [upd_n e]; unfold s9; simp only [upd, if_neg e]
theorem s9_of : w = s9 w c (w (90 + 9 * c + 0)) (w (90 + 9 * c + 1)) (w (90 + 9 * c + 2)) (w (90 + 9 * c + 3)) (w (90 + 9 * c + 4)) (w (90 + 9 * c + 5)) (w (90 + 9 * c + 6)) (w (90 + 9 * c + 7)) (w (90 + 9 * c + 8)) := by
  funext i
  unfold s9
  by_cases e8 : i = 90 + 9 * c + 8
  · subst e8; simp (disch := omega) only [upd_s, upd_n]
  rw [upd_n e8]
  by_cases e7 : i = 90 + 9 * c + 7
  · subst e7; simp (disch := omega) only [upd_s, upd_n]
  rw [upd_n e7]
  by_cases e6 : i = 90 + 9 * c + 6
  · subst e6; simp (disch := omega) only [upd_s, upd_n]
  rw [upd_n e6]
  by_cases e5 : i = 90 + 9 * c + 5
  · subst e5; simp (disch := omega) only [upd_s, upd_n]
  rw [upd_n e5]
  by_cases e4 : i = 90 + 9 * c + 4
  · subst e4; simp (disch := omega) only [upd_s, upd_n]
  rw [upd_n e4]
  by_cases e3 : i = 90 + 9 * c + 3
  · subst e3; simp (disch := omega) only [upd_s, upd_n]
  rw [upd_n e3]
  by_cases e2 : i = 90 + 9 * c + 2
  · subst e2; simp (disch := omega) only [upd_s, upd_n]
  rw [upd_n e2]
  by_cases e1 : i = 90 + 9 * c + 1
  · subst e1; simp (disch := omega) only [upd_s, upd_n]
  rw [upd_n e1]
  by_cases e0 : i = 90 + 9 * c + 0
  · subst e0; simp (disch := omega) only [upd_s, upd_n]
  rw [upd_n e0]
theorem s9_d {d k : Nat} (h : d ≠ c) (hk : k < 9) : s9 w c a0 a1 a2 a3 a4 a5 a6 a7 a8 (90 + 9 * d + k) = w (90 + 9 * d + k) := s9_o (by omega)
end
/-! which car is before which -/
def aheadB (w : Nat → Int32) (d c : Nat) : Bool := decide (w (90 + 9 * c + 4) < w (90 + 9 * d + 4) ∨ w (90 + 9 * d + 4) = w (90 + 9 * c + 4) ∧ d < c)
theorem ahead_i {w : Nat → Int32} {d c : Nat} : aheadB w d c = true ↔ w (90 + 9 * c + 4) < w (90 + 9 * d + 4) ∨ w (90 + 9 * d + 4) = w (90 + 9 * c + 4) ∧ d < c := decide_eq_true_iff
def isB (w : Nat → Int32) (c d : Nat) : Bool := decide (w (90 + 9 * d + 0) = 1 ∧ aheadB w d c = true)
theorem isB_i {w : Nat → Int32} {d c : Nat} : isB w c d = true ↔ w (90 + 9 * d + 0) = 1 ∧ aheadB w d c = true := decide_eq_true_iff
theorem ia_s {w : Nat → Int32} {c d : Nat} (hc : c < 8) (hd : d < 8) : f5_isAhead_0 w (nI d) (nI c) = some (b01 (aheadB w d c = true)) := by
  unfold f5_isAhead_0 f5_isAhead_40 f5_isAhead_44 f5_isAhead_45
  simp (disch := omega) only [e5_4, gd_n, cl_n, gz_0, gz_1, n_le]
  by_cases h1 : w (90 + 9 * c + 4) < w (90 + 9 * d + 4)
  · rw [if_pos h1, b01_t (ahead_i.mpr (Or.inl h1))]
  · rw [if_neg h1]
    by_cases h2 : w (90 + 9 * d + 4) = w (90 + 9 * c + 4)
    · rw [if_pos h2]
      by_cases h3 : c ≤ d
      · rw [if_pos h3, b01_f (fun q => (ahead_i.mp q).elim h1 (fun q => by omega))]
      · rw [if_neg h3, b01_t (ahead_i.mpr (Or.inr ⟨h2, by omega⟩))]
    · rw [if_neg h2, b01_f (fun q => (ahead_i.mp q).elim h1 (fun q => h2 q.1))]
theorem ib_s {w : Nat → Int32} {c d : Nat} (hc : c < 8) (hd : d < 8) (pc : sml (w (90 + 9 * c + 4)) 300) (pd : sml (w (90 + 9 * d + 4)) 300) :
    f3_isBefore_0 w (nI d) (nI c) = some (b01 (isB w c d = true)) := by
  unfold f3_isBefore_0 f3_isBefore_20 f3_isBefore_46 f3_isBefore_50 f3_isBefore_51
  simp (disch := omega) only [gd_n, cl_n, gz_0, gz_1, n_le]
  have pc := sml_i pc (by omega)
  have pd := sml_i pd (by omega)
  have hs := i_sub (a := w (90 + 9 * d + 4)) (b := w (90 + 9 * c + 4)) (by omega) (by omega)
  have z0 : (0 : Int32).toInt = 0 := rfl
  by_cases h0 : w (90 + 9 * d + 0) = 1
  · rw [if_pos h0]
    by_cases h1 : w (90 + 9 * c + 4) < w (90 + 9 * d + 4)
    · rw [if_pos (by rw [i_lt] at h1 ⊢; rw [hs, z0]; omega), b01_t (isB_i.mpr ⟨h0, ahead_i.mpr (Or.inl h1)⟩)]
    · rw [if_neg (by rw [i_lt] at h1 ⊢; rw [hs, z0]; omega)]
      by_cases h2 : w (90 + 9 * d + 4) = w (90 + 9 * c + 4)
      · rw [if_pos (by rw [i_eq] at h2 ⊢; rw [hs, z0]; omega)]
        by_cases h3 : c ≤ d
        · rw [if_pos h3, b01_f (fun q => (ahead_i.mp (isB_i.mp q).2).elim h1 (fun q => by omega))]
        · rw [if_neg h3, b01_t (isB_i.mpr ⟨h0, ahead_i.mpr (Or.inr ⟨h2, by omega⟩)⟩)]
      · rw [if_neg (by rw [i_eq] at h2 ⊢; rw [hs, z0]; omega), b01_f (fun q => (ahead_i.mp (isB_i.mp q).2).elim h1 (fun q => h2 q.1))]
  · rw [if_neg h0, b01_f (fun q => h0 (isB_i.mp q).1)]
/-- the nearest one -/
def oi : Option Nat → Int32
  | none => -1
  | some k => nI k
def bfN (B : Nat → Bool) (p : Nat → Int32) : Nat → Option Nat
  | 0 => none
  | n + 1 => if B n = true then (match bfN B p n with | none => some n | some k => if p k < p n then some k else some n) else bfN B p n
theorem bf_lt {B : Nat → Bool} {p : Nat → Int32} {k : Nat} : ∀ {n : Nat}, bfN B p n = some k → k < n ∧ B k = true
  | 0, h => by exact absurd h (by simp [bfN])
  | n + 1, h => by
    by_cases hb : B n = true
    · cases hm : bfN B p n with
      | none =>
        rw [bfN, if_pos hb, hm] at h
        simp only [Option.some.injEq] at h
        subst h
        exact ⟨by omega, hb⟩
      | some d =>
        have := bf_lt hm
        rw [bfN, if_pos hb, hm] at h
        by_cases hp : p d < p n
        · simp only [if_pos hp, Option.some.injEq] at h
          subst h
          exact ⟨by omega, this.2⟩
        · simp only [if_neg hp, Option.some.injEq] at h
          subst h
          exact ⟨by omega, hb⟩
    · rw [bfN, if_neg hb] at h
      have := bf_lt h
      exact ⟨by omega, this.2⟩
theorem nI_m1 {k : Nat} (h : k < 2 ^ 31) : ¬ nI k = -1 := by
  rw [i_eq, nI_toInt h, show (-1 : Int32).toInt = -1 from rfl]
  omega
def nxN (w : Nat → Int32) (N c : Nat) : Option Nat := bfN (isB w c) (fun d => w (90 + 9 * d + 4)) N
theorem isB_self {w : Nat → Int32} {c : Nat} : isB w c c = false := by
  cases h : isB w c c with
  | false => rfl
  | true => exact absurd (ahead_i.mp (isB_i.mp h).2) (fun q => q.elim (fun q => absurd (i_lt.mp q) (by omega)) (fun q => absurd q.2 (by omega)))
theorem nb_s {w : Nat → Int32} {N c : Nat} (hI : ∀ c, c < N → sml (w (90 + 9 * c + 4)) 300) (hN : N ≤ 8) (hw : w 162 = nI N) (hc : c < N) :
    f3_nextBefore_0 w (nI c) = some (oi (nxN w N c)) := by
  unfold f3_nextBefore_0
  refine lp_e (σ := Int32) (L := fun n a j => f3_nextBefore_4 w n (nI c) a j) (N := N) (S := fun j => oi (nxN w j c)) ?_ ?_ (by rw [fu_eq]; omega)
  · intro n j hj
    simp (disch := omega) only [f3_nextBefore_4, f3_nextBefore_47, f3_nextBefore_49, hw, n_le, gd_n, cl_n, ad_1, ib_s (c := c) (d := j) (by omega) (by omega) (hI c hc) (hI j hj), ob, b01_0, if_neg (show ¬ N ≤ j by omega)]
    by_cases hb : isB w c j = true
    · rw [if_neg (fun q => q hb)]
      unfold nxN
      cases hm : bfN (isB w c) (fun d => w (90 + 9 * d + 4)) j with
      | none =>
        rw [bfN, if_pos hb, hm]
        rw [if_pos (show oi none = -1 from rfl)]
        rfl
      | some d =>
        have := bf_lt hm
        rw [bfN, if_pos hb, hm]
        have hne : ¬ oi (some d) = -1 := nI_m1 (by omega)
        rw [if_neg hne]
        show gd (nI d) 8 _ = _
        simp (disch := omega) only [oi, gd_n, cl_n]
        by_cases hp : w (90 + 9 * d + 4) < w (90 + 9 * j + 4)
        · rw [if_pos hp, if_pos hp]
        · rw [if_neg hp, if_neg hp]
    · rw [if_pos hb]
      unfold nxN
      rw [bfN, if_neg hb]
  · intro n
    simp (disch := omega) only [f3_nextBefore_4, hw, if_pos (Int32.le_refl _)]
theorem be_s {w : Nat → Int32} {N c : Nat} (hN : N ≤ 8) (hw : w 162 = nI N) (hc : c < N) :
    f5_before_0 w (nI c) = some (oi (nxN w N c)) := by
  unfold f5_before_0
  refine lp_e (σ := Int32) (L := fun n a j => f5_before_4 w n (nI c) a j) (N := N) (S := fun j => oi (nxN w j c)) ?_ ?_ (by rw [fu_eq]; omega)
  · intro n j hj
    have key : f5_before_4 w (n + 1) (nI c) (oi (nxN w j c)) (nI j) = f5_before_44 w (f5_before_4 w n) (nI c) (oi (nxN w j c)) (nI j) (b01 (isB w c j = true)) := by
      simp (disch := omega) only [f5_before_4, f5_before_43, hw, gdm162, cl162, n_le, n_eq, isIn_o, ia_s, ob, b01_0, if_neg (show ¬ N ≤ j by omega)]
      by_cases e : j = c
      · rw [if_pos e, e, isB_self, b01_f (by decide)]
      · rw [if_neg e]
        by_cases h0 : w (90 + 9 * j + 0) = 1
        · rw [if_neg (fun q => q h0)]
          by_cases h1 : aheadB w j c = true
          · rw [if_neg (fun q => q h1), b01_t (isB_i.mpr ⟨h0, h1⟩)]
          · rw [if_pos h1, b01_f (fun q => h1 (isB_i.mp q).2)]
        · rw [if_pos h0, b01_f (fun q => h0 (isB_i.mp q).1)]
    rw [key]
    simp (disch := omega) only [f5_before_44, f5_before_79, f5_before_83, f5_before_84, b01_0, ad_1, e5_4, gd_n, cl_n]
    by_cases hb : isB w c j = true
    · rw [if_neg (fun q => q hb)]
      unfold nxN
      cases hm : bfN (isB w c) (fun d => w (90 + 9 * d + 4)) j with
      | none =>
        rw [bfN, if_pos hb, hm]
        rw [if_pos (show oi none = -1 from rfl)]
        rfl
      | some d =>
        have := bf_lt hm
        rw [bfN, if_pos hb, hm]
        have hne : ¬ oi (some d) = -1 := nI_m1 (by omega)
        rw [if_neg hne]
        simp (disch := omega) only [oi, e5_4, gd_n, cl_n]
        by_cases hp : w (90 + 9 * d + 4) < w (90 + 9 * j + 4)
        · rw [if_pos hp, if_pos hp]
        · rw [if_neg hp, if_neg hp]
    · rw [if_pos hb]
      unfold nxN
      rw [bfN, if_neg hb]
  · intro n
    simp (disch := omega) only [f5_before_4, hw, gdm162, cl162, if_pos (Int32.le_refl _)]
