/-! the order in which cars move -/
theorem ah_tri {w : Nat → Int32} {c d : Nat} (h : d ≠ c) : aheadB w d c = true ∨ aheadB w c d = true := by
  rw [ahead_i, ahead_i]
  simp only [i_lt, i_eq]
  omega
theorem ah_asym {w : Nat → Int32} {c d : Nat} (h : aheadB w d c = true) : ¬ aheadB w c d = true := by
  rw [ahead_i] at h ⊢
  simp only [i_lt, i_eq] at h ⊢
  omega
theorem ah_trans {w : Nat → Int32} {a b c : Nat} (h : aheadB w a b = true) (h2 : aheadB w b c = true) : aheadB w a c = true := by
  rw [ahead_i] at h h2 ⊢
  simp only [i_lt, i_eq] at h h2 ⊢
  omega
theorem ct_mono {P Q : Nat → Bool} : ∀ {n : Nat}, (∀ d, d < n → P d = true → Q d = true) → ctN P n ≤ ctN Q n
  | 0, _ => Nat.le_refl _
  | n + 1, h => by
    have ih := ct_mono (n := n) (fun d hd => h d (by omega))
    cases hp : P n with
    | false => rw [ct_f hp]; have := ct_le (P := Q) n; cases hq : Q n with
      | false => rw [ct_f hq]; exact ih
      | true => rw [ct_t hq]; omega
    | true => rw [ct_t hp, ct_t (h n (by omega) hp)]; omega
theorem ct_strict {P Q : Nat → Bool} {e : Nat} (hP : P e = false) (hQ : Q e = true) : ∀ {n : Nat}, e < n → (∀ d, d < n → P d = true → Q d = true) → ctN P n < ctN Q n
  | n + 1, he, h => by
    by_cases en : e = n
    · subst en
      rw [ct_f hP, ct_t hQ]
      have := ct_mono (P := P) (Q := Q) (n := e) (fun d hd => h d (by omega))
      omega
    · have ih := ct_strict hP hQ (n := n) (by omega) (fun d hd => h d (by omega))
      cases hp : P n with
      | false => rw [ct_f hp]; cases hq : Q n with
        | false => rw [ct_f hq]; exact ih
        | true => rw [ct_t hq]; omega
      | true => rw [ct_t hp, ct_t (h n (by omega) hp)]; omega
def rk (w : Nat → Int32) (c j : Nat) : Nat := ctN (isB w c) j
def nr (w : Nat → Int32) (j : Nat) : Nat := ctN (isSt w 1) j
theorem st_i {w : Nat → Int32} {x : Int32} {c : Nat} : isSt w x c = true ↔ w (90 + 9 * c + 0) = x := decide_eq_true_iff
theorem isB_st {w : Nat → Int32} {c d : Nat} : isB w c d = true ↔ isSt w 1 d = true ∧ aheadB w d c = true := by rw [isB_i, st_i]
theorem rk_lt {w : Nat → Int32} {c d j : Nat} (hd : d < j) (hr : isSt w 1 d = true) (ha : aheadB w d c = true) : rk w d j < rk w c j :=
  ct_strict (e := d) isB_self (isB_st.mpr ⟨hr, ha⟩) hd (fun e _ he => isB_st.mpr ⟨(isB_st.mp he).1, ah_trans (isB_st.mp he).2 ha⟩)
theorem rk_le {w : Nat → Int32} {c d j : Nat} (ha : aheadB w c d = true) : rk w c j ≤ rk w d j :=
  ct_mono (fun e _ he => isB_st.mpr ⟨(isB_st.mp he).1, ah_trans (isB_st.mp he).2 ha⟩)
theorem rk_nr {w : Nat → Int32} {c j : Nat} (hc : c < j) (hr : isSt w 1 c = true) : rk w c j < nr w j :=
  ct_strict (e := c) isB_self hr hc (fun e _ he => (isB_st.mp he).1)
theorem rk_nr' {w : Nat → Int32} {c j : Nat} : rk w c j ≤ nr w j := ct_mono (fun e _ he => (isB_st.mp he).1)
theorem nr_le {w : Nat → Int32} {j : Nat} : nr w j ≤ j := ct_le j
theorem rk_inj {w : Nat → Int32} {c d N : Nat} (hc : c < N) (hd : d < N) (rc : isSt w 1 c = true) (rd : isSt w 1 d = true) (h : rk w c N = rk w d N) : c = d := by
  by_cases e : d = c
  · exact e.symm
  · rcases ah_tri (w := w) e with q | q
    · have := rk_lt hd rd q; omega
    · have := rk_lt hc rc q; omega
theorem rk_t {w : Nat → Int32} {c j : Nat} (h : isB w c j = true) : rk w c (j + 1) = rk w c j + 1 := ct_t h
theorem rk_f {w : Nat → Int32} {c j : Nat} (h : isB w c j = false) : rk w c (j + 1) = rk w c j := ct_f h
theorem nr_t {w : Nat → Int32} {j : Nat} (h : isSt w 1 j = true) : nr w (j + 1) = nr w j + 1 := ct_t h
theorem nr_f {w : Nat → Int32} {j : Nat} (h : isSt w 1 j = false) : nr w (j + 1) = nr w j := ct_f h
/-- the row of turns holds the rolling cars below j, in their order -/
def turnI (w : Nat → Int32) (j : Nat) (v : Nat → Int32) : Prop := ∀ k, k < nr w j → ∃ c, c < j ∧ isSt w 1 c = true ∧ v k = nI c ∧ rk w c j = k
theorem sb_1 {k : Nat} (h : k + 1 < 2 ^ 31) : nI (k + 1) - 1 = nI k := by
  rw [i_eq, i_sub] <;> rw [nI_toInt h, show (1 : Int32).toInt = 1 from rfl]
  · rw [nI_toInt (by omega)]; omega
  · omega
  · omega
theorem am_1 {k : Nat} (h : k + 1 < 2 ^ 31) : nI (k + 1) + (-1) = nI k := by
  rw [← sb_1 h, Int32.sub_eq_add_neg]
theorem ins_s {w : Nat → Int32} {K : Int32 → Int32 → (Nat → Int32) → Option (Int32 × (Nat → Int32))} {j : Nat} {u : Nat → Int32} (hj : j < 8) (hu : turnI w j u) :
    ∀ e k fuel v, k - rk w j j = e → rk w j j ≤ k → k ≤ nr w j → e < fuel → (∀ i, i < k → v i = u i) → (∀ i, k ≤ i → i < nr w j → v (i + 1) = u i) →
    ∃ v', (v' (rk w j j) = nI j ∧ (∀ i, i < rk w j j → v' i = u i) ∧ (∀ i, rk w j j ≤ i → i < nr w j → v' (i + 1) = u i)) ∧
      f5_notes_27 w K fuel (nI (nr w j)) (nI j) (nI k) v = K (nI (nr w j + 1)) (nI (j + 1)) v' := by
  have hn := nr_le (w := w) (j := j)
  have out : ∀ v : Nat → Int32, (∀ i, i < rk w j j → v i = u i) → (∀ i, rk w j j ≤ i → i < nr w j → v (i + 1) = u i) → rk w j j ≤ nr w j →
      ∃ v', (v' (rk w j j) = nI j ∧ (∀ i, i < rk w j j → v' i = u i) ∧ (∀ i, rk w j j ≤ i → i < nr w j → v' (i + 1) = u i)) ∧
      f5_notes_67 w K (nI (nr w j)) (nI j) (nI (rk w j j)) v = K (nI (nr w j + 1)) (nI (j + 1)) v' := by
    intro v h1 h2 h3
    refine ⟨upd v (rk w j j) (nI j), ⟨upd_s, fun i hi => by rw [upd_n (by omega)]; exact h1 i hi, fun i hi hi2 => by rw [upd_n (by omega)]; exact h2 i hi hi2⟩, ?_⟩
    unfold f5_notes_67 f5_notes_77
    simp (disch := omega) only [gd_n, cl_n, ad_1]
  intro e
  induction e with
  | zero =>
    intro k fuel v he hk hkn hf h1 h2
    obtain ⟨n, rfl⟩ : ∃ n, fuel = n + 1 := ⟨fuel - 1, by omega⟩
    obtain rfl : k = rk w j j := by omega
    obtain ⟨v', hv, ev⟩ := out v h1 h2 hkn
    refine ⟨v', hv, ?_⟩
    rw [← ev]
    cases hk0 : rk w j j with
    | zero =>
      show (if nI 0 ≤ 0 then _ else _) = _
      rw [if_pos (by decide)]
    | succ k =>
      rw [hk0] at hkn h1 h2
      have hx : ¬ nI (k + 1) ≤ 0 := by rw [show (0 : Int32) = nI 0 from rfl, n_le (by omega) (by omega)]; omega
      obtain ⟨c, hc, hr, hv2, hrk⟩ := hu k (by omega)
      have hv3 : v k = nI c := by rw [h1 k (by omega)]; exact hv2
      have hna : ¬ aheadB w j c = true := fun q => by have := rk_le (j := j) q; omega
      simp (disch := omega) only [f5_notes_27, if_neg hx, sb_1, gd_n, cl_n, hv3, ia_s, ob, b01_f hna, if_pos]
      rfl
  | succ e ih =>
    intro k fuel v he hk hkn hf h1 h2
    obtain ⟨n, rfl⟩ : ∃ n, fuel = n + 1 := ⟨fuel - 1, by omega⟩
    obtain ⟨k, rfl⟩ : ∃ k', k = k' + 1 := ⟨k - 1, by omega⟩
    have hx : ¬ nI (k + 1) ≤ 0 := by rw [show (0 : Int32) = nI 0 from rfl, n_le (by omega) (by omega)]; omega
    obtain ⟨c, hc, hr, hv2, hrk⟩ := hu k (by omega)
    have hv3 : v k = nI c := by rw [h1 k (by omega)]; exact hv2
    have ha : aheadB w j c = true := by
      rcases ah_tri (w := w) (c := c) (d := j) (by omega) with q | q
      · exact q
      · have := rk_lt hc hr q; omega
    obtain ⟨v', hv, ev⟩ := ih k n (upd v (k + 1) (v k)) (by omega) (by omega) (by omega) (by omega) (fun i hi => by rw [upd_n (by omega)]; exact h1 i (by omega)) (fun i hi hi2 => by
      by_cases e : i = k
      · subst e; rw [upd_s]; exact h1 i (by omega)
      · rw [upd_n (by omega)]; exact h2 i (by omega) hi2)
    refine ⟨v', hv, ?_⟩
    rw [← ev]
    have hne : ¬ (1 : Int32) = 0 := by decide
    simp (disch := omega) only [f5_notes_27, if_neg hx, sb_1, am_1, gd_n, cl_n, hv3, ia_s, ob, b01_t ha, if_neg hne]
theorem no_s {w v7 : Nat → Int32} {N : Nat} (hN : N ≤ 8) (hw : w 162 = nI N) : ∃ v', f5_notes_0 w v7 = some (nI (nr w N), v') ∧ turnI w N v' := by
  have h := lp_p (σ := Int32 × (Nat → Int32)) (L := fun n s j => f5_notes_4 w n s.1 j s.2) (N := N) (P := fun j s => s.1 = nI (nr w j) ∧ turnI w j s.2)
    (Q := fun a => a.1 = nI (nr w N) ∧ turnI w N a.2) ?_ ?_ N fu 0 (0, v7) rfl (by omega) ⟨rfl, fun k hk => absurd hk (by show ¬ k < 0; omega)⟩ (by rw [fu_eq]; omega)
  · obtain ⟨a, h1, h2, h3⟩ := h
    refine ⟨a.2, ?_, h3⟩
    unfold f5_notes_0
    rw [show f5_notes_4 w fu 0 0 v7 = some a from h1, ← h2]
  · intro n s j hj hs
    obtain ⟨s1, s2⟩ := s
    obtain ⟨rfl, hT⟩ := hs
    have e0 : f5_notes_4 w (n + 1) (nI (nr w j)) (nI j) s2 = (if b01 (w (90 + 9 * j + 0) = 1) = 0 then f5_notes_77 w (f5_notes_4 w n) (nI (nr w j)) (nI j) s2 else f5_notes_27 w (f5_notes_4 w n) fu (nI (nr w j)) (nI j) (nI (nr w j)) s2) := by
      simp (disch := omega) only [f5_notes_4, gdm162, cl162, hw, n_le, if_neg (show ¬ N ≤ j by omega), isIn_o, ob]
    by_cases hr : isSt w 1 j = true
    · obtain ⟨v', ⟨p1, p2, p3⟩, p4⟩ := ins_s (K := f5_notes_4 w n) (j := j) (u := s2) (by omega) hT (nr w j - rk w j j) (nr w j) fu s2 rfl rk_nr' (Nat.le_refl _) (by have := nr_le (w := w) (j := j); rw [fu_eq]; omega) (fun i hi => rfl) (fun i h1 h2 => by omega)
      refine ⟨(nI (nr w j + 1), v'), ⟨by rw [nr_t hr], ?_⟩, ?_⟩
      · intro k hk
        rw [nr_t hr] at hk
        by_cases k1 : k < rk w j j
        · obtain ⟨c, hc, hr2, hv, hrk⟩ := hT k (by have := rk_nr' (w := w) (c := j) (j := j); omega)
          refine ⟨c, by omega, hr2, (p2 k k1).trans hv, ?_⟩
          rw [rk_f]
          · exact hrk
          · cases hb : isB w c j with
            | false => rfl
            | true => have := rk_le (j := j) (isB_st.mp hb).2; omega
        · by_cases k2 : k = rk w j j
          · subst k2
            exact ⟨j, by omega, hr, p1, rk_f isB_self⟩
          · obtain ⟨k, rfl⟩ : ∃ k', k = k' + 1 := ⟨k - 1, by omega⟩
            obtain ⟨c, hc, hr2, hv, hrk⟩ := hT k (by omega)
            refine ⟨c, by omega, hr2, (p3 k (by omega) (by omega)).trans hv, ?_⟩
            rw [rk_t, hrk]
            refine isB_st.mpr ⟨hr, ?_⟩
            rcases ah_tri (w := w) (c := c) (d := j) (by omega) with q | q
            · exact q
            · have := rk_lt hc hr2 q; omega
      · show f5_notes_4 w (n + 1) (nI (nr w j)) (nI j) s2 = _
        rw [e0, if_neg (by rw [b01_0]; exact fun q => q (st_i.mp hr)), p4]
    · have hr' : isSt w 1 j = false := by simpa using hr
      refine ⟨(nI (nr w j), s2), ⟨by rw [nr_f hr'], ?_⟩, ?_⟩
      · intro k hk
        rw [nr_f hr'] at hk
        obtain ⟨c, hc, hr2, hv, hrk⟩ := hT k hk
        refine ⟨c, by omega, hr2, hv, ?_⟩
        rw [rk_f]
        · exact hrk
        · cases hb : isB w c j with
          | false => rfl
          | true => exact absurd (isB_st.mp hb).1 hr
      · show f5_notes_4 w (n + 1) (nI (nr w j)) (nI j) s2 = _
        rw [e0, if_pos (by rw [b01_0]; exact fun q => hr (st_i.mpr q))]
        unfold f5_notes_77
        rw [ad_1]
  · intro n s hs
    obtain ⟨s1, s2⟩ := s
    obtain ⟨rfl, hT⟩ := hs
    refine ⟨(nI (nr w N), s2), ?_, rfl, hT⟩
    show f5_notes_4 w (n + 1) (nI (nr w N)) (nI N) s2 = _
    simp (disch := omega) only [f5_notes_4, gdm162, cl162, hw, if_pos (Int32.le_refl _)]
