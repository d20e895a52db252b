/-! the saved states: the ring and the row of pasts -/
def HI (mu : Nat → Nat → Int32) : Prop := ∀ k, k < 10 → Inv (mu k)
def HistR (mu : Nat → Nat → Int32) (v0 v3 : Nat → Int32) : Prop :=
  ∃ x n, x < 6 ∧ n ≤ 6 ∧ mu 10 1 = nI x ∧ mu 10 2 = nI n ∧ v0 3 = nI n ∧ ∀ j, j < n → ∀ i, i < 171 → v3 (171 * j + i) = mu (2 + (x + 6 - n + j) % 6) i
theorem c855 : (855 : Int32) = nI 855 := rfl
theorem sv50_s {v1 v0 v3 : Nat → Int32} {m : Nat} (hm : m < 6) (h0 : v0 3 = nI m) :
    ∃ v3', f5_saves_50 v1 v0 v3 = some (upd v0 3 (nI (m + 1)), v3') ∧ ∀ i, v3' i = if 171 * m ≤ i ∧ i < 171 * m + 171 then v1 (i - 171 * m) else v3 i := by
  unfold f5_saves_50
  obtain ⟨s', n, h1, h2⟩ := lp_k (σ := Nat → Int32) (L := fun n s j => f5_saves_52 v1 n j v0 s) (N := 171) (P := fun j s => ∀ i, s i = if 171 * m ≤ i ∧ i < 171 * m + j then v1 (i - 171 * m) else v3 i) (by
    intro n s j hj hs
    have h8 : ¬ (171 : Int32) ≤ nI j := by rw [c171, n_le (by omega) (by omega)]; omega
    refine ⟨upd s (171 * m + j) (v1 j), ?_, ?_⟩
    · intro i
      by_cases e : i = 171 * m + j
      · subst e
        rw [upd_s, if_pos (by omega), show 171 * m + j - 171 * m = j by omega]
      · rw [upd_n e, hs i]
        by_cases q : 171 * m ≤ i ∧ i < 171 * m + j
        · rw [if_pos q, if_pos (by omega)]
        · rw [if_neg q, if_neg (by omega)]
    · show f5_saves_52 v1 (n + 1) (nI j) v0 s = _
      simp (disch := omega) only [f5_saves_52, if_neg h8, h0, mr_171, ad_n, gd_n, cl_n, ad_1]) 171 fu 0 v3 rfl (by omega) (fun i => by rw [if_neg (by omega)]) (by rw [fu_eq]; omega)
  refine ⟨s', Eq.trans h2 ?_, h1⟩
  show f5_saves_52 v1 (n + 1) (nI 171) v0 s' = _
  simp only [f5_saves_52, if_pos (show (171 : Int32) ≤ nI 171 by decide), h0, ad_1]
theorem sv_s {v1 v0 v3 : Nat → Int32} {n : Nat} (hn : n ≤ 6) (h0 : v0 3 = nI n) : ∃ v0' v3', f5_saves_0 v1 v0 v3 = some (v0', v3') ∧ (∀ j, j ≠ 3 → v0' j = v0 j) ∧
    v0' 3 = nI (if n = 6 then 6 else n + 1) ∧ (n < 6 → ∀ i, v3' i = if 171 * n ≤ i ∧ i < 171 * n + 171 then v1 (i - 171 * n) else v3 i) ∧
    (n = 6 → ∀ i, i < 1026 → v3' i = if i < 855 then v3 (171 + i) else v1 (i - 855)) := by
  unfold f5_saves_0
  by_cases h6 : n = 6
  · subst h6
    rw [if_pos (show v0 3 = 6 from h0)]
    obtain ⟨s', m, h1, h2⟩ := lp_k (σ := Nat → Int32) (L := fun n s j => f5_saves_11 v1 n j v0 s) (N := 855) (P := fun j s => ∀ i, s i = if i < j then v3 (171 + i) else v3 i) (by
      intro n s j hj hs
      have h8 : ¬ (855 : Int32) ≤ nI j := by rw [c855, n_le (by omega) (by omega)]; omega
      refine ⟨upd s j (v3 (171 + j)), ?_, ?_⟩
      · intro i
        by_cases e : i = j
        · subst e; rw [upd_s, if_pos (by omega)]
        · rw [upd_n e, hs i]
          by_cases q : i < j
          · rw [if_pos q, if_pos (by omega)]
          · rw [if_neg q, if_neg (by omega)]
      · show f5_saves_11 v1 (n + 1) (nI j) v0 s = _
        have hr : s (171 + j) = v3 (171 + j) := by rw [hs, if_neg (by omega)]
        simp (disch := omega) only [f5_saves_11, if_neg h8, ar_171, gd_n, cl_n, ad_1, hr]) 855 fu 0 v3 rfl (by omega) (fun i => by rw [if_neg (by omega)]) (by rw [fu_eq]; omega)
    have h5 : upd v0 3 (v0 3 - 1) 3 = nI 5 := by rw [upd_s, h0]; rfl
    obtain ⟨v3', g1, g2⟩ := sv50_s (v1 := v1) (v0 := upd v0 3 (v0 3 - 1)) (v3 := s') (m := 5) (by omega) h5
    refine ⟨_, v3', Eq.trans h2 (Eq.trans ?_ g1), ?_, ?_, fun h => by omega, fun _ i hi => ?_⟩
    · show f5_saves_11 v1 (m + 1) (nI 855) v0 s' = _
      simp only [f5_saves_11, if_pos (show (855 : Int32) ≤ nI 855 by decide)]
    · intro j hj
      rw [upd_n hj, upd_n hj]
    · rw [upd_s]; rfl
    · rw [g2 i]
      by_cases q : i < 855
      · rw [if_neg (by omega), h1 i, if_pos q, if_pos q]
      · rw [if_pos (by omega), if_neg q]
  · rw [if_neg (by rw [h0, show (6 : Int32) = nI 6 from rfl, n_eq (by omega) (by omega)]; exact h6)]
    obtain ⟨v3', g1, g2⟩ := sv50_s (v1 := v1) (v0 := v0) (v3 := v3) (m := n) (by omega) h0
    refine ⟨_, v3', g1, fun j hj => upd_n hj, ?_, fun _ => g2, fun h => absurd h h6⟩
    rw [upd_s, if_neg h6]
theorem pu_c {mu : Nat → Nat → Int32} {x n : Nat} (hI : HI mu) (hx : x < 6) (hn : n ≤ 6) (h1 : mu 10 1 = nI x) (h2 : mu 10 2 = nI n) :
    f1_push_0 mu = some (s1 (s1 mu (2 + x) (mu 0)) 10 (upd (upd (mu 10) 1 (nI ((x + 1) % 6))) 2 (nI (if n = 6 then 6 else n + 1)))) := by
  unfold f1_push_0
  rw [h1]
  simp (disch := omega) only [gd_n, cl_n, cp_i (hI 0 (by omega)) (hI (2 + x) (by omega)), ob, s1_n, h1, ad_1, f1_push_35, f1_push_53, s1_k, s1_s1, upd_n, h2]
  have e2 : (if nI (n + 1) < 6 then nI (n + 1) else 6) = nI (if n = 6 then 6 else n + 1) := by
    by_cases h : n = 6
    · subst h; rfl
    · rw [if_neg h]
      by_cases q : nI (n + 1) < 6
      · rw [if_pos q]
      · rw [if_neg q]
        rw [show (6 : Int32) = nI 6 from rfl, n_lt (by omega) (by omega)] at q
        rw [show n + 1 = 6 by omega]; rfl
  rw [e2]
  by_cases h : x = 5
  · subst h
    rw [if_pos (by decide)]
    rfl
  · rw [if_neg (by rw [show (6 : Int32) = nI 6 from rfl, n_le (by omega) (by omega)]; omega), show (x + 1) % 6 = x + 1 by omega]
theorem ps_s {mu : Nat → Nat → Int32} {v0 v1 v3 : Nat → Int32} (hI : HI mu) (h1 : mu 0 = v1) (hH : HistR mu v0 v3) :
    ∃ mu' v0' v3', f1_push_0 mu = some mu' ∧ f5_saves_0 v1 v0 v3 = some (v0', v3') ∧ HI mu' ∧ HistR mu' v0' v3' ∧ (∀ k, k < 2 ∨ 8 ≤ k ∧ k ≠ 10 → mu' k = mu k) ∧ (∀ j, j ≠ 3 → v0' j = v0 j) := by
  obtain ⟨x, n, hx, hn, m1, m2, m3, hr⟩ := hH
  obtain ⟨v0', v3', g1, g2, g3, g4, g5⟩ := sv_s (v1 := v1) (v3 := v3) hn m3
  refine ⟨_, v0', v3', pu_c hI hx hn m1 m2, g1, ?_, ⟨(x + 1) % 6, if n = 6 then 6 else n + 1, by omega, by split <;> omega, ?_, ?_, g3, ?_⟩, ?_, g2⟩
  · intro k hk
    rw [s1_n (by omega)]
    by_cases e : k = 2 + x
    · subst e; rw [s1_k]; exact hI 0 (by omega)
    · rw [s1_n e]; exact hI k hk
  · rw [s1_k, upd_n (by omega), upd_s]
  · rw [s1_k, upd_s]
  · intro j hj i hi
    rw [s1_n (by omega)]
    by_cases h6 : n = 6
    · subst h6
      rw [if_pos rfl] at hj ⊢
      rw [g5 rfl _ (by omega)]
      by_cases q : j < 5
      · rw [if_pos (by omega), s1_n (by omega), show 171 + (171 * j + i) = 171 * (j + 1) + i by omega, hr (j + 1) (by omega) i hi, show (x + 6 - 6 + (j + 1)) % 6 = ((x + 1) % 6 + 6 - 6 + j) % 6 by omega]
      · obtain rfl : j = 5 := by omega
        rw [if_neg (by omega), show 2 + ((x + 1) % 6 + 6 - 6 + 5) % 6 = 2 + x by omega, s1_k, show 171 * 5 + i - 855 = i by omega, h1]
    · rw [if_neg h6] at hj ⊢
      rw [g4 (by omega)]
      by_cases q : j < n
      · rw [if_neg (by omega), s1_n (by omega), hr j q i hi, show (x + 6 - n + j) % 6 = ((x + 1) % 6 + 6 - (n + 1) + j) % 6 by omega]
      · obtain rfl : j = n := by omega
        rw [if_pos (by omega), show 2 + ((x + 1) % 6 + 6 - (j + 1) + j) % 6 = 2 + x by omega, s1_k, show 171 * j + i - 171 * j = i by omega, h1]
  · intro k hk
    rw [s1_n (by omega), s1_n (by omega)]
