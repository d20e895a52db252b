/-! the text: the class's scan, sign by sign, and the model's number -/
def TC (v v6 : Nat → Int32) (L : Nat) : Prop := L ≤ 60 ∧ v 60 = nI L ∧ (∀ i, i < L → v i = v6 i) ∧ (∀ i, i < L → ∃ k, 33 ≤ k ∧ k ≤ 126 ∧ v6 i = nI k)
def tN (v6 : Nat → Int32) (L p : Nat) : Nat := Int32.toNatClampNeg (tx v6 L p)
theorem tn_s {v v6 : Nat → Int32} {L : Nat} (h : TC v v6 L) (p : Nat) : tx v6 L p = nI (tN v6 L p) ∧ tN v6 L p < 128 ∧ (p < L ↔ 33 ≤ tN v6 L p) ∧ (¬ p < L → tN v6 L p = 0) := by
  obtain ⟨k, h1, h2, h3, h4⟩ := tx_k (p := p) h.2.2.2
  have e : tN v6 L p = k := by unfold tN; rw [h2]; exact cl_n (by omega)
  rw [e]
  exact ⟨h2, by omega, h3, h4⟩
def PT (v : Nat → Int32) (d p d' q : Nat) : Prop := p ≤ q ∧ ∀ n, f2_errorIndex_4 v (n + (q - p)) (nI d) (nI p) = f2_errorIndex_4 v n (nI d') (nI q) ∧ f2_isComplete_4 v (n + (q - p)) (nI d) (nI p) = f2_isComplete_4 v n (nI d') (nI q)
theorem pt_r {v : Nat → Int32} {d p : Nat} : PT v d p d p := ⟨Nat.le_refl _, fun n => by rw [Nat.sub_self]; exact ⟨rfl, rfl⟩⟩
theorem pt_t {v : Nat → Int32} {d p d' q d'' r : Nat} (h1 : PT v d p d' q) (h2 : PT v d' q d'' r) : PT v d p d'' r := by
  refine ⟨Nat.le_trans h1.1 h2.1, fun n => ?_⟩
  have a := h1.2 (n + (r - q))
  have b := h2.2 n
  have l1 := h1.1
  have l2 := h2.1
  rw [show n + (r - p) = n + (r - q) + (q - p) by omega]
  exact ⟨a.1.trans b.1, a.2.trans b.2⟩
theorem pt_1 {v v6 : Nat → Int32} {L d p d' : Nat} (h : TC v v6 L) (hp : p < L) (hd : d < 12) (e : dueN d (tN v6 L p) = d') (hd' : d' < 12) : PT v d p d' (p + 1) := by
  obtain ⟨t1, t2, t3, t4⟩ := tn_s h p
  obtain ⟨hL, h60, hv, hc⟩ := h
  have s1 := sg_s hL h60 hv hc (i := p) (by omega)
  rw [t1] at s1
  have s2 := due_s hd t2
  rw [e, show dI d' = nI d' from if_neg (by omega)] at s2
  have c1 : ¬ v 60 ≤ nI p := by rw [h60, n_le (by omega) (by omega)]; omega
  have c2 : ¬ nI d = -1 := nI_m1 (by omega)
  have c3 : ¬ nI d' = -1 := nI_m1 (by omega)
  refine ⟨by omega, fun n => ?_⟩
  rw [show n + (p + 1 - p) = n + 1 by omega]
  constructor
  · simp only [f2_errorIndex_4, if_neg c1, s1, ob, s2, if_neg c3, ad_1]
  · simp only [f2_isComplete_4, if_neg c1, if_neg c2, s1, ob, s2, ad_1]
theorem ic_w {v : Nat → Int32} : f2_isComplete_33 v (-1) = some 0 := by
  unfold f2_isComplete_33 f2_isComplete_55
  rw [if_neg (by decide), if_neg (by decide), if_neg (by decide), gz_0]
theorem pt_w {v v6 : Nat → Int32} {L d p : Nat} (h : TC v v6 L) (hp : p < L) (hd : d < 12) (e : dueN d (tN v6 L p) = 12) (n : Nat) :
    f2_errorIndex_4 v (n + 1) (nI d) (nI p) = some (nI p) ∧ f2_isComplete_4 v (n + 2) (nI d) (nI p) = some 0 := by
  obtain ⟨t1, t2, t3, t4⟩ := tn_s h p
  obtain ⟨hL, h60, hv, hc⟩ := h
  have s1 := sg_s hL h60 hv hc (i := p) (by omega)
  rw [t1] at s1
  have s2 := due_s hd t2
  rw [e, show dI 12 = -1 from if_pos rfl] at s2
  have c1 : ¬ v 60 ≤ nI p := by rw [h60, n_le (by omega) (by omega)]; omega
  have c2 : ¬ nI d = -1 := nI_m1 (by omega)
  constructor
  · simp only [f2_errorIndex_4, if_neg c1, s1, ob, s2, if_true]
  · simp only [f2_isComplete_4, if_neg c1, if_neg c2, s1, ob, s2, if_true, ic_w, ite_self]
def fin (d : Nat) : Prop := d = 1 ∨ d = 10 ∨ d = 11
theorem pt_e {v v6 : Nat → Int32} {L d : Nat} (h : TC v v6 L) (hd : d < 12) (n : Nat) :
    f2_errorIndex_4 v (n + 1) (nI d) (nI L) = some (nI L) ∧ (fin d → f2_isComplete_4 v (n + 1) (nI d) (nI L) = some 1) ∧ (¬ fin d → f2_isComplete_4 v (n + 1) (nI d) (nI L) = some 0) := by
  obtain ⟨hL, h60, hv, hc⟩ := h
  have c1 : v 60 ≤ nI L := by rw [h60]; exact Int32.le_refl _
  have e : f2_isComplete_4 v (n + 1) (nI d) (nI L) = f2_isComplete_33 v (nI d) := by
    simp only [f2_isComplete_4, if_pos c1]
  have a1 : nI d = 1 ↔ d = 1 := n_eq (b := 1) (by omega) (by omega)
  have a10 : nI d = 10 ↔ d = 10 := n_eq (b := 10) (by omega) (by omega)
  have a11 : nI d = 11 ↔ d = 11 := n_eq (b := 11) (by omega) (by omega)
  have o1 : f2_isComplete_50 v = some 1 := by unfold f2_isComplete_50 f2_isComplete_55; exact gz_1
  have o0 : f2_isComplete_55 v 0 = some 0 := by unfold f2_isComplete_55; exact gz_0
  rw [e]
  unfold f2_isComplete_33
  rw [o1, o0]
  refine ⟨?_, ?_, ?_⟩
  · simp only [f2_errorIndex_4, h60, if_pos (Int32.le_refl (nI L))]
  · intro f
    rcases f with f | f | f
    · rw [if_pos (a1.mpr f)]
    · rw [if_neg (fun q => by have := a1.mp q; omega), if_pos (a10.mpr f)]
    · rw [if_neg (fun q => by have := a1.mp q; omega), if_neg (fun q => by have := a10.mp q; omega), if_pos (a11.mpr f)]
  · intro f
    rw [if_neg (fun q => f (Or.inl (a1.mp q))), if_neg (fun q => f (Or.inr (Or.inl (a10.mp q)))), if_neg (fun q => f (Or.inr (Or.inr (a11.mp q))))]
/-! the class's reading of a number -/
theorem nbq_e {v : Nat → Int32} (n : Nat) {x2 x3 x4 : Int32} (h : x2 ≤ x4) : f2_numberAt_5 v (n + 1) x2 x3 x4 = some x3 := if_pos h
theorem nbq_s {v : Nat → Int32} (n : Nat) {x2 x3 x4 t : Int32} (h : ¬ x2 ≤ x4) (hs : f2_signAt_0 v x4 = some t) : f2_numberAt_5 v (n + 1) x2 x3 x4 = f2_numberAt_5 v n x2 (x3 * 10 + t - 48) (x4 + 1) := by
  have e : f2_numberAt_5 v (n + 1) x2 x3 x4 = Option.bind (f2_signAt_0 v x4) (fun t2 => f2_numberAt_5 v n x2 (x3 * 10 + t2 - 48) (x4 + 1)) := if_neg h
  rw [e, hs, ob]
theorem na_0 {v : Nat → Int32} {x1 x2 : Int32} (h : x2 ≤ x1) : f2_numberAt_0 v x1 x2 = some 0 := nbq_e 999 h
theorem na_1 {v v6 : Nat → Int32} {L p : Nat} (h : TC v v6 L) (hp : p < 2 ^ 29) : f2_numberAt_0 v (nI p) (nI (p + 1)) = some (tx v6 L p - 48) := by
  obtain ⟨hL, h60, hv, hc⟩ := h
  have s1 := sg_s hL h60 hv hc (i := p) (by omega)
  have c1 : ¬ nI (p + 1) ≤ nI p := by rw [n_le (by omega) (by omega)]; omega
  have e1 : f2_numberAt_0 v (nI p) (nI (p + 1)) = f2_numberAt_5 v 999 (nI (p + 1)) (0 * 10 + tx v6 L p - 48) (nI p + 1) := nbq_s 999 c1 s1
  rw [e1, ad_1, Int32.zero_mul, Int32.zero_add]
  exact nbq_e 998 (Int32.le_refl _)
theorem na_2 {v v6 : Nat → Int32} {L p : Nat} (h : TC v v6 L) (hp : p < 2 ^ 29) : f2_numberAt_0 v (nI p) (nI (p + 2)) = some ((tx v6 L p - 48) * 10 + tx v6 L (p + 1) - 48) := by
  obtain ⟨hL, h60, hv, hc⟩ := h
  have s1 := sg_s hL h60 hv hc (i := p) (by omega)
  have s2 := sg_s hL h60 hv hc (i := p + 1) (by omega)
  have c1 : ¬ nI (p + 2) ≤ nI p := by rw [n_le (by omega) (by omega)]; omega
  have c2 : ¬ nI (p + 2) ≤ nI (p + 1) := by rw [n_le (by omega) (by omega)]; omega
  have e1 : f2_numberAt_0 v (nI p) (nI (p + 2)) = f2_numberAt_5 v 999 (nI (p + 2)) (0 * 10 + tx v6 L p - 48) (nI p + 1) := nbq_s 999 c1 s1
  have e2 : ∀ y, f2_numberAt_5 v 999 (nI (p + 2)) y (nI (p + 1)) = f2_numberAt_5 v 998 (nI (p + 2)) (y * 10 + tx v6 L (p + 1) - 48) (nI (p + 1) + 1) := fun y => nbq_s 998 c2 s2
  rw [e1, ad_1, Int32.zero_mul, Int32.zero_add, e2, ad_1]
  exact nbq_e 997 (Int32.le_refl _)
/-! the table, once more -/
theorem du_1 {k : Nat} : dueN 1 k = if k = 59 then 0 else 12 := by simp [dueN, enN]
theorem du_10 {k : Nat} : dueN 10 k = if k = 59 then 0 else if 48 ≤ k ∧ k ≤ 57 then 1 else 12 := by simp [dueN, enN, dgN]
theorem du_11 {k : Nat} : dueN 11 k = if k = 59 then 0 else if k = 48 then 1 else 12 := by simp [dueN, enN]
theorem fd_no {k g : Nat} (h : ¬ (49 ≤ k ∧ k ≤ 57)) : fdN k g = 12 := by
  unfold fdN dgN
  rw [if_neg (by simpa using h)]
theorem fd_yes {k g : Nat} (h : 49 ≤ k ∧ k ≤ 57) : fdN k g = if k = g then 11 else if g ≤ k then 1 else 10 := by
  unfold fdN dgN
  rw [if_pos (decide_eq_true h)]
def stop (v6 : Nat → Int32) (L d q : Nat) : Prop := q < L → tN v6 L q = 59 ∨ dueN d (tN v6 L q) = 12
def noS (v6 : Nat → Int32) (L p q : Nat) : Prop := ∀ i, p ≤ i → i < q → tN v6 L i ≠ 59
theorem st_1 {v6 : Nat → Int32} {L q : Nat} : stop v6 L 1 q := fun _ => by
  by_cases h : tN v6 L q = 59
  · exact Or.inl h
  · exact Or.inr (by rw [du_1, if_neg h])
theorem num_s {v0 v v6 : Nat → Int32} {L p dd g H : Nat} (h : TC v v6 L) (h7 : v0 7 = nI L) (h11 : v0 11 = nI p) (h12 : v0 12 = 0) (hp : p ≤ L) (hdd : dd < 12) (hfd : ∀ k, dueN dd k = fdN k g) (hg : g = 50 ∨ g = 54) (hH : H = 10 * (g - 48)) :
    ∃ r e q d, f5_number_0 v6 (nI H) v0 = some (r, upd (upd v0 12 e) 11 (nI q)) ∧ p ≤ q ∧ q ≤ L ∧ d < 12 ∧ PT v dd p d q ∧
      (e = 1 ∧ d = dd ∧ (q < L → dueN d (tN v6 L q) = 12) ∨ e = 0 ∧ fin d ∧ stop v6 L d q ∧ noS v6 L p q ∧ f2_numberAt_0 v (nI p) (nI q) = some r ∧ ∃ X, r = nI X ∧ 1 ≤ X ∧ X ≤ H) := by
  obtain ⟨t1, t2, t3, t4⟩ := tn_s h p
  obtain ⟨u1, u2, u3, u4⟩ := tn_s h (p + 1)
  have hL := h.1
  by_cases hk : 49 ≤ tN v6 L p ∧ tN v6 L p ≤ 57
  · have hpL : p < L := t3.mpr (by omega)
    have e := num_2 (H := H) hL h7 h11 h12 (by omega) t2 u2 (by omega) t1 u1 hk
    have ns1 : noS v6 L p (p + 1) := fun i a b => by obtain rfl : i = p := by omega
                                                     omega
    have n1 := na_1 (v := v) (v6 := v6) (L := L) (p := p) h (by omega)
    have n2 := na_2 (v := v) (v6 := v6) (L := L) (p := p) h (by omega)
    rw [t1, sb_48 (by omega) (by omega)] at n1 n2
    rw [u1, show nI (tN v6 L p - 48) * 10 = nI ((tN v6 L p - 48) * 10) from pk_mul _ 10, ad_n] at n2
    by_cases h2 : 48 ≤ tN v6 L (p + 1) ∧ tN v6 L (p + 1) ≤ 57 ∧ 10 * (tN v6 L p - 48) + (tN v6 L (p + 1) - 48) ≤ H
    · rw [if_pos h2] at e
      have hqL : p + 1 < L := u3.mpr (by omega)
      rw [sb_48 (by omega) (by omega), show (tN v6 L p - 48) * 10 + tN v6 L (p + 1) - 48 = 10 * (tN v6 L p - 48) + (tN v6 L (p + 1) - 48) by omega] at n2
      refine ⟨_, 0, p + 2, 1, e, by omega, by omega, by omega, ?_, Or.inr ⟨rfl, Or.inl rfl, st_1, ?_, n2, _, rfl, by omega, h2.2.2⟩⟩
      · by_cases hkg : tN v6 L p = g
        · refine pt_t (pt_1 (d' := 11) h hpL hdd ?_ (by omega)) (pt_1 h hqL (by omega) ?_ (by omega))
          · rw [hfd, fd_yes hk, if_pos hkg]
          · rw [du_11, if_neg (by omega), if_pos (by omega)]
        · refine pt_t (pt_1 (d' := 10) h hpL hdd ?_ (by omega)) (pt_1 h hqL (by omega) ?_ (by omega))
          · rw [hfd, fd_yes hk, if_neg hkg, if_neg (by omega)]
          · rw [du_10, if_neg (by omega), if_pos (by omega)]
      · intro i a b
        by_cases c : i = p
        · subst c; omega
        · obtain rfl : i = p + 1 := by omega
          omega
    · rw [if_neg h2] at e
      by_cases hkg : tN v6 L p = g
      · refine ⟨_, 0, p + 1, 11, e, by omega, by omega, by omega, pt_1 h hpL hdd (by rw [hfd, fd_yes hk, if_pos hkg]) (by omega), Or.inr ⟨rfl, Or.inr (Or.inr rfl), fun hq => ?_, ns1, n1, _, rfl, by omega, by omega⟩⟩
        by_cases c : tN v6 L (p + 1) = 59
        · exact Or.inl c
        · exact Or.inr (by rw [du_11, if_neg c, if_neg (by omega)])
      · by_cases hlt : g ≤ tN v6 L p
        · refine ⟨_, 0, p + 1, 1, e, by omega, by omega, by omega, pt_1 h hpL hdd (by rw [hfd, fd_yes hk, if_neg hkg, if_pos hlt]) (by omega), Or.inr ⟨rfl, Or.inl rfl, st_1, ns1, n1, _, rfl, by omega, by omega⟩⟩
        · refine ⟨_, 0, p + 1, 10, e, by omega, by omega, by omega, pt_1 h hpL hdd (by rw [hfd, fd_yes hk, if_neg hkg, if_neg hlt]) (by omega), Or.inr ⟨rfl, Or.inr (Or.inl rfl), fun hq => ?_, ns1, n1, _, rfl, by omega, by omega⟩⟩
          by_cases c : tN v6 L (p + 1) = 59
          · exact Or.inl c
          · exact Or.inr (by rw [du_10, if_neg c, if_neg (by omega)])
  · have e := num_w (H := H) hL h7 h11 h12 (by omega) t2 t1 hk
    exact ⟨_, 1, p, dd, e, by omega, hp, hdd, pt_r, Or.inl ⟨rfl, rfl, fun _ => by rw [hfd, fd_no hk]⟩⟩
