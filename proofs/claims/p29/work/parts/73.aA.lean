/-! p29: a railway, as the law sees it: the state, the saved states (the last one first), how many, the snapshots; what its questions answer -/
abbrev Vc : Type := Nat → Int32
abbrev Stt : Type := Vc × (Nat → Vc) × Nat × (Nat → Option Vc)
def AS (mu : Nat → Nat → Int32) (S : Stt) : Prop :=
  mu 0 = S.1 ∧ HI mu ∧ (∃ x, x < 6 ∧ mu 10 1 = nI x ∧ ∀ j, j < S.2.2.1 → mu (2 + (x + 5 - j) % 6) = S.2.1 j) ∧ S.2.2.1 ≤ 6 ∧ mu 10 2 = nI S.2.2.1 ∧ (∀ t, t < 2 → mu 11 t = (if (S.2.2.2 t).isSome = true then 1 else 0) ∧ ∀ u, S.2.2.2 t = some u → mu (8 + t) = u) ∧ ∃ L, L ≤ 60 ∧ mu 12 60 = nI L
def JW (B : Int) (w : Vc) : Prop := ∃ N, JN B N w
def JS (B : Int) (S : Stt) : Prop := JW B S.1 ∧ (∀ j, j < S.2.2.1 → JW B (S.2.1 j)) ∧ (∀ t u, t < 2 → S.2.2.2 t = some u → JW B u) ∧ 0 ≤ B
theorem js_mono {B B' : Int} {S : Stt} (h : JS B S) (hB : B ≤ B') : JS B' S := ⟨h.1.imp (fun _ q => jn_mono q hB), fun j hj => (h.2.1 j hj).imp (fun _ q => jn_mono q hB), fun t u ht e => (h.2.2.1 t u ht e).imp (fun _ q => jn_mono q hB), by have := h.2.2.2; omega⟩
def pushS (S : Stt) : Stt := (S.1, (fun j => if j = 0 then S.1 else S.2.1 (j - 1)), (if S.2.2.1 = 6 then 6 else S.2.2.1 + 1), S.2.2.2)
def setS (S : Stt) (w : Vc) : Stt := (w, S.2)
theorem as_n {mu : Nat → Nat → Int32} {S : Stt} {k : Nat} {v : Vc} (h : AS mu S) (hk : 20 ≤ k) : AS (s1 mu k v) S := by
  obtain ⟨h1, h2, ⟨x, hx, h3, h4⟩, h5, h6, h7, h8⟩ := h
  refine ⟨by rw [s1_n (by omega)]; exact h1, fun j hj => by rw [s1_n (by omega)]; exact h2 j hj, ⟨x, hx, by rw [s1_n (by omega)]; exact h3, fun j hj => by rw [s1_n (by omega)]; exact h4 j hj⟩, h5, by rw [s1_n (by omega)]; exact h6, fun t ht => ⟨by rw [s1_n (by omega)]; exact (h7 t ht).1, fun u hu => by rw [s1_n (by omega)]; exact (h7 t ht).2 u hu⟩, by rw [s1_n (by omega)]; exact h8⟩
theorem as_t {mu : Nat → Nat → Int32} {S : Stt} {v : Vc} (h : AS mu S) (hv : Inv v) : AS (s1 mu 1 v) S := by
  obtain ⟨h1, h2, ⟨x, hx, h3, h4⟩, h5, h6, h7, h8⟩ := h
  refine ⟨by rw [s1_n (by omega)]; exact h1, fun j hj => ?_, ⟨x, hx, by rw [s1_n (by omega)]; exact h3, fun j hj => by rw [s1_n (by omega)]; exact h4 j hj⟩, h5, by rw [s1_n (by omega)]; exact h6, fun t ht => ⟨by rw [s1_n (by omega)]; exact (h7 t ht).1, fun u hu => by rw [s1_n (by omega)]; exact (h7 t ht).2 u hu⟩, by rw [s1_n (by omega)]; exact h8⟩
  by_cases e : j = 1
  · subst e; rw [s1_k]; exact hv
  · rw [s1_n e]; exact h2 j hj
theorem as_s {mu : Nat → Nat → Int32} {S : Stt} {v : Vc} (h : AS mu S) (hv : Inv v) : AS (s1 mu 0 v) (setS S v) := by
  obtain ⟨h1, h2, ⟨x, hx, h3, h4⟩, h5, h6, h7, h8⟩ := h
  refine ⟨s1_k, fun j hj => ?_, ⟨x, hx, by rw [s1_n (by omega)]; exact h3, fun j hj => by rw [s1_n (by omega)]; exact h4 j hj⟩, h5, by rw [s1_n (by omega)]; exact h6, fun t ht => ⟨by rw [s1_n (by omega)]; exact (h7 t ht).1, fun u hu => by rw [s1_n (by omega)]; exact (h7 t ht).2 u hu⟩, by rw [s1_n (by omega)]; exact h8⟩
  by_cases e : j = 0
  · subst e; rw [s1_k]; exact hv
  · rw [s1_n e]; exact h2 j hj
theorem as_x {mu : Nat → Nat → Int32} {S : Stt} {v : Vc} (h : AS mu S) (hv : ∃ L, L ≤ 60 ∧ v 60 = nI L) : AS (s1 mu 12 v) S := by
  obtain ⟨h1, h2, ⟨x, hx, h3, h4⟩, h5, h6, h7, h8⟩ := h
  exact ⟨by rw [s1_n (by omega)]; exact h1, fun j hj => by rw [s1_n (by omega)]; exact h2 j hj, ⟨x, hx, by rw [s1_n (by omega)]; exact h3, fun j hj => by rw [s1_n (by omega)]; exact h4 j hj⟩, h5, by rw [s1_n (by omega)]; exact h6, fun t ht => ⟨by rw [s1_n (by omega)]; exact (h7 t ht).1, fun u hu => by rw [s1_n (by omega)]; exact (h7 t ht).2 u hu⟩, by rw [s1_k]; exact hv⟩
theorem as_push {mu : Nat → Nat → Int32} {S : Stt} (h : AS mu S) : ∃ mu', f1_push_0 mu = some mu' ∧ AS mu' (pushS S) ∧ mu' 0 = S.1 ∧ (∀ k, k < 2 ∨ 8 ≤ k ∧ k ≠ 10 → mu' k = mu k) := by
  obtain ⟨h1, h2, ⟨x, hx, h3, h4⟩, h5, h6, h7, h8⟩ := h
  have ho : ∀ k, k < 2 ∨ 8 ≤ k ∧ k ≠ 10 → s1 (s1 mu (2 + x) (mu 0)) 10 (upd (upd (mu 10) 1 (nI ((x + 1) % 6))) 2 (nI (if S.2.2.1 = 6 then 6 else S.2.2.1 + 1))) k = mu k := fun k hk => by rw [s1_n (by omega), s1_n (by omega)]
  refine ⟨_, pu_c h2 hx h5 h3 h6, ⟨(ho 0 (by omega)).trans h1, ?_, ⟨(x + 1) % 6, by omega, ?_, ?_⟩, ?_, ?_, ?_, ?_⟩, (ho 0 (by omega)).trans h1, ho⟩
  · intro k hk
    rw [s1_n (by omega)]
    by_cases e : k = 2 + x
    · subst e; rw [s1_k]; exact h2 0 (by omega)
    · rw [s1_n e]; exact h2 k hk
  · rw [s1_k, upd_n (by omega), upd_s]
  · intro j hj
    rw [s1_n (by omega)]
    show _ = if j = 0 then S.1 else S.2.1 (j - 1)
    have hj2 : j < if S.2.2.1 = 6 then 6 else S.2.2.1 + 1 := hj
    by_cases e : j = 0
    · subst e
      rw [if_pos rfl, show 2 + ((x + 1) % 6 + 5 - 0) % 6 = 2 + x by omega, s1_k]; exact h1
    · have hj3 : j - 1 < S.2.2.1 ∧ j < 6 := by
        by_cases e6 : S.2.2.1 = 6
        · rw [if_pos e6] at hj2; omega
        · rw [if_neg e6] at hj2; omega
      rw [if_neg e, s1_n (by omega), show 2 + ((x + 1) % 6 + 5 - j) % 6 = 2 + (x + 5 - (j - 1)) % 6 by omega]
      exact h4 (j - 1) hj3.1
  · show (if S.2.2.1 = 6 then 6 else S.2.2.1 + 1) ≤ 6
    by_cases e6 : S.2.2.1 = 6
    · rw [if_pos e6]; omega
    · rw [if_neg e6]; omega
  · rw [s1_k, upd_s]; rfl
  · exact fun t ht => ⟨by rw [ho 11 (by omega)]; exact (h7 t ht).1, fun u hu => by rw [ho (8 + t) (by omega)]; exact (h7 t ht).2 u hu⟩
  · rw [ho 12 (by omega)]; exact h8
theorem js_push {B : Int} {S : Stt} (h : JS B S) : JS B (pushS S) := by
  refine ⟨h.1, fun j hj => ?_, h.2.2⟩
  have hj2 : j < if S.2.2.1 = 6 then 6 else S.2.2.1 + 1 := hj
  show JW B (if j = 0 then S.1 else S.2.1 (j - 1))
  by_cases e : j = 0
  · rw [if_pos e]; exact h.1
  · rw [if_neg e]
    refine h.2.1 (j - 1) ?_
    by_cases e6 : S.2.2.1 = 6
    · rw [if_pos e6] at hj2; omega
    · rw [if_neg e6] at hj2; omega
theorem js_set {B B' : Int} {S : Stt} {v : Vc} (h : JS B S) (hB : B ≤ B') (hv : JW B' v) : JS B' (setS S v) := ⟨hv, (js_mono h hB).2⟩
theorem as_i {mu : Nat → Nat → Int32} {S : Stt} (h : AS mu S) : Inv S.1 := h.1 ▸ h.2.1 0 (by omega)
/-! questions -/
def cntV (w : Vc) (N n : Nat) : Nat → Int32
  | 0 => w 163
  | 1 => w 162
  | 2 => nI (ctN (isSw w) 30)
  | 3 => w 164
  | 4 => w 165
  | 5 => w 166
  | 6 => smN (fun c => w (90 + 9 * c + 1)) N
  | 7 => fmul w N
  | 8 => w 167
  | 9 => nI n
  | 11 => w 168
  | 12 => w 169
  | _ => w 170
section Questions
variable {mu : Nat → Nat → Int32} {S : Stt} {N : Nat}
theorem cn_s {j : Nat} (h : AS mu S) (hN : N ≤ 8) (hw : S.1 162 = nI N) (hj : j ≤ 13) (h10 : j ≠ 10) : f6_count_0 mu (nI j) = some (cntV S.1 N S.2.2.1 j) := by
  obtain ⟨h1, h2, h3, h5, h6, h7, h8⟩ := h
  have key : f4_count_0 mu (nI j) = some (0, cntV S.1 N S.2.2.1 j) := by
    unfold f4_count_0
    rw [iw_s, ob, b01_t ⟨(n_le (a := 0) (by omega) (by omega)).mpr (by omega), (n_le (b := 13) (by omega) (by omega)).mpr hj⟩, if_neg n10]
    unfold f3_number_0
    rw [h1, sc_s, oc_s hN hw, fm_s hN hw, ob, ob, ob]
    obtain rfl | rfl | rfl | rfl | rfl | rfl | rfl | rfl | rfl | rfl | rfl | rfl | rfl : j = 0 ∨ j = 1 ∨ j = 2 ∨ j = 3 ∨ j = 4 ∨ j = 5 ∨ j = 6 ∨ j = 7 ∨ j = 8 ∨ j = 9 ∨ j = 11 ∨ j = 12 ∨ j = 13 := by omega
    · simp only [if_neg (show ¬ nI 0 = 1 by decide), if_neg (show ¬ nI 0 = 2 by decide), if_neg (show ¬ nI 0 = 3 by decide), if_neg (show ¬ nI 0 = 4 by decide), if_neg (show ¬ nI 0 = 5 by decide), if_neg (show ¬ nI 0 = 6 by decide), if_neg (show ¬ nI 0 = 7 by decide), if_neg (show ¬ nI 0 = 8 by decide), if_neg (show ¬ nI 0 = 9 by decide), if_neg (show ¬ nI 0 = 10 by decide), if_neg (show ¬ nI 0 = 11 by decide), if_neg (show ¬ nI 0 = 12 by decide), if_pos (show nI 0 = 0 by decide), ob, gdm162, gdm163, gdm164, gdm165, gdm166, gdm167, gdm168, gdm169, gdm170, cl162, cl163, cl164, cl165, cl166, cl167, cl168, cl169, cl170, gds0, gds1, gds2, cl0, cl1, cl2, Nat.reduceAdd, Nat.add_zero]
      rfl
    · simp only [if_neg (show ¬ nI 1 = 0 by decide), if_neg (show ¬ nI 1 = 2 by decide), if_neg (show ¬ nI 1 = 3 by decide), if_neg (show ¬ nI 1 = 4 by decide), if_neg (show ¬ nI 1 = 5 by decide), if_neg (show ¬ nI 1 = 6 by decide), if_neg (show ¬ nI 1 = 7 by decide), if_neg (show ¬ nI 1 = 8 by decide), if_neg (show ¬ nI 1 = 9 by decide), if_neg (show ¬ nI 1 = 10 by decide), if_neg (show ¬ nI 1 = 11 by decide), if_neg (show ¬ nI 1 = 12 by decide), if_pos (show nI 1 = 1 by decide), ob, gdm162, gdm163, gdm164, gdm165, gdm166, gdm167, gdm168, gdm169, gdm170, cl162, cl163, cl164, cl165, cl166, cl167, cl168, cl169, cl170, gds0, gds1, gds2, cl0, cl1, cl2, Nat.reduceAdd, Nat.add_zero]
      rfl
    · simp only [if_neg (show ¬ nI 2 = 0 by decide), if_neg (show ¬ nI 2 = 1 by decide), if_neg (show ¬ nI 2 = 3 by decide), if_neg (show ¬ nI 2 = 4 by decide), if_neg (show ¬ nI 2 = 5 by decide), if_neg (show ¬ nI 2 = 6 by decide), if_neg (show ¬ nI 2 = 7 by decide), if_neg (show ¬ nI 2 = 8 by decide), if_neg (show ¬ nI 2 = 9 by decide), if_neg (show ¬ nI 2 = 10 by decide), if_neg (show ¬ nI 2 = 11 by decide), if_neg (show ¬ nI 2 = 12 by decide), if_pos (show nI 2 = 2 by decide), ob, gdm162, gdm163, gdm164, gdm165, gdm166, gdm167, gdm168, gdm169, gdm170, cl162, cl163, cl164, cl165, cl166, cl167, cl168, cl169, cl170, gds0, gds1, gds2, cl0, cl1, cl2, Nat.reduceAdd, Nat.add_zero]
      rfl
    · simp only [if_neg (show ¬ nI 3 = 0 by decide), if_neg (show ¬ nI 3 = 1 by decide), if_neg (show ¬ nI 3 = 2 by decide), if_neg (show ¬ nI 3 = 4 by decide), if_neg (show ¬ nI 3 = 5 by decide), if_neg (show ¬ nI 3 = 6 by decide), if_neg (show ¬ nI 3 = 7 by decide), if_neg (show ¬ nI 3 = 8 by decide), if_neg (show ¬ nI 3 = 9 by decide), if_neg (show ¬ nI 3 = 10 by decide), if_neg (show ¬ nI 3 = 11 by decide), if_neg (show ¬ nI 3 = 12 by decide), if_pos (show nI 3 = 3 by decide), ob, gdm162, gdm163, gdm164, gdm165, gdm166, gdm167, gdm168, gdm169, gdm170, cl162, cl163, cl164, cl165, cl166, cl167, cl168, cl169, cl170, gds0, gds1, gds2, cl0, cl1, cl2, Nat.reduceAdd, Nat.add_zero]
      rfl
    · simp only [if_neg (show ¬ nI 4 = 0 by decide), if_neg (show ¬ nI 4 = 1 by decide), if_neg (show ¬ nI 4 = 2 by decide), if_neg (show ¬ nI 4 = 3 by decide), if_neg (show ¬ nI 4 = 5 by decide), if_neg (show ¬ nI 4 = 6 by decide), if_neg (show ¬ nI 4 = 7 by decide), if_neg (show ¬ nI 4 = 8 by decide), if_neg (show ¬ nI 4 = 9 by decide), if_neg (show ¬ nI 4 = 10 by decide), if_neg (show ¬ nI 4 = 11 by decide), if_neg (show ¬ nI 4 = 12 by decide), if_pos (show nI 4 = 4 by decide), ob, gdm162, gdm163, gdm164, gdm165, gdm166, gdm167, gdm168, gdm169, gdm170, cl162, cl163, cl164, cl165, cl166, cl167, cl168, cl169, cl170, gds0, gds1, gds2, cl0, cl1, cl2, Nat.reduceAdd, Nat.add_zero]
      rfl
    · simp only [if_neg (show ¬ nI 5 = 0 by decide), if_neg (show ¬ nI 5 = 1 by decide), if_neg (show ¬ nI 5 = 2 by decide), if_neg (show ¬ nI 5 = 3 by decide), if_neg (show ¬ nI 5 = 4 by decide), if_neg (show ¬ nI 5 = 6 by decide), if_neg (show ¬ nI 5 = 7 by decide), if_neg (show ¬ nI 5 = 8 by decide), if_neg (show ¬ nI 5 = 9 by decide), if_neg (show ¬ nI 5 = 10 by decide), if_neg (show ¬ nI 5 = 11 by decide), if_neg (show ¬ nI 5 = 12 by decide), if_pos (show nI 5 = 5 by decide), ob, gdm162, gdm163, gdm164, gdm165, gdm166, gdm167, gdm168, gdm169, gdm170, cl162, cl163, cl164, cl165, cl166, cl167, cl168, cl169, cl170, gds0, gds1, gds2, cl0, cl1, cl2, Nat.reduceAdd, Nat.add_zero]
      rfl
    · simp only [if_neg (show ¬ nI 6 = 0 by decide), if_neg (show ¬ nI 6 = 1 by decide), if_neg (show ¬ nI 6 = 2 by decide), if_neg (show ¬ nI 6 = 3 by decide), if_neg (show ¬ nI 6 = 4 by decide), if_neg (show ¬ nI 6 = 5 by decide), if_neg (show ¬ nI 6 = 7 by decide), if_neg (show ¬ nI 6 = 8 by decide), if_neg (show ¬ nI 6 = 9 by decide), if_neg (show ¬ nI 6 = 10 by decide), if_neg (show ¬ nI 6 = 11 by decide), if_neg (show ¬ nI 6 = 12 by decide), if_pos (show nI 6 = 6 by decide), ob, gdm162, gdm163, gdm164, gdm165, gdm166, gdm167, gdm168, gdm169, gdm170, cl162, cl163, cl164, cl165, cl166, cl167, cl168, cl169, cl170, gds0, gds1, gds2, cl0, cl1, cl2, Nat.reduceAdd, Nat.add_zero]
      rfl
    · simp only [if_neg (show ¬ nI 7 = 0 by decide), if_neg (show ¬ nI 7 = 1 by decide), if_neg (show ¬ nI 7 = 2 by decide), if_neg (show ¬ nI 7 = 3 by decide), if_neg (show ¬ nI 7 = 4 by decide), if_neg (show ¬ nI 7 = 5 by decide), if_neg (show ¬ nI 7 = 6 by decide), if_neg (show ¬ nI 7 = 8 by decide), if_neg (show ¬ nI 7 = 9 by decide), if_neg (show ¬ nI 7 = 10 by decide), if_neg (show ¬ nI 7 = 11 by decide), if_neg (show ¬ nI 7 = 12 by decide), if_pos (show nI 7 = 7 by decide), ob, gdm162, gdm163, gdm164, gdm165, gdm166, gdm167, gdm168, gdm169, gdm170, cl162, cl163, cl164, cl165, cl166, cl167, cl168, cl169, cl170, gds0, gds1, gds2, cl0, cl1, cl2, Nat.reduceAdd, Nat.add_zero]
      rfl
    · simp only [if_neg (show ¬ nI 8 = 0 by decide), if_neg (show ¬ nI 8 = 1 by decide), if_neg (show ¬ nI 8 = 2 by decide), if_neg (show ¬ nI 8 = 3 by decide), if_neg (show ¬ nI 8 = 4 by decide), if_neg (show ¬ nI 8 = 5 by decide), if_neg (show ¬ nI 8 = 6 by decide), if_neg (show ¬ nI 8 = 7 by decide), if_neg (show ¬ nI 8 = 9 by decide), if_neg (show ¬ nI 8 = 10 by decide), if_neg (show ¬ nI 8 = 11 by decide), if_neg (show ¬ nI 8 = 12 by decide), if_pos (show nI 8 = 8 by decide), ob, gdm162, gdm163, gdm164, gdm165, gdm166, gdm167, gdm168, gdm169, gdm170, cl162, cl163, cl164, cl165, cl166, cl167, cl168, cl169, cl170, gds0, gds1, gds2, cl0, cl1, cl2, Nat.reduceAdd, Nat.add_zero]
      rfl
    · simp only [if_neg (show ¬ nI 9 = 0 by decide), if_neg (show ¬ nI 9 = 1 by decide), if_neg (show ¬ nI 9 = 2 by decide), if_neg (show ¬ nI 9 = 3 by decide), if_neg (show ¬ nI 9 = 4 by decide), if_neg (show ¬ nI 9 = 5 by decide), if_neg (show ¬ nI 9 = 6 by decide), if_neg (show ¬ nI 9 = 7 by decide), if_neg (show ¬ nI 9 = 8 by decide), if_neg (show ¬ nI 9 = 10 by decide), if_neg (show ¬ nI 9 = 11 by decide), if_neg (show ¬ nI 9 = 12 by decide), if_pos (show nI 9 = 9 by decide), ob, gdm162, gdm163, gdm164, gdm165, gdm166, gdm167, gdm168, gdm169, gdm170, cl162, cl163, cl164, cl165, cl166, cl167, cl168, cl169, cl170, gds0, gds1, gds2, cl0, cl1, cl2, Nat.reduceAdd, Nat.add_zero, h6]
      rfl
    · simp only [if_neg (show ¬ nI 11 = 0 by decide), if_neg (show ¬ nI 11 = 1 by decide), if_neg (show ¬ nI 11 = 2 by decide), if_neg (show ¬ nI 11 = 3 by decide), if_neg (show ¬ nI 11 = 4 by decide), if_neg (show ¬ nI 11 = 5 by decide), if_neg (show ¬ nI 11 = 6 by decide), if_neg (show ¬ nI 11 = 7 by decide), if_neg (show ¬ nI 11 = 8 by decide), if_neg (show ¬ nI 11 = 9 by decide), if_neg (show ¬ nI 11 = 10 by decide), if_neg (show ¬ nI 11 = 12 by decide), if_pos (show nI 11 = 11 by decide), ob, gdm162, gdm163, gdm164, gdm165, gdm166, gdm167, gdm168, gdm169, gdm170, cl162, cl163, cl164, cl165, cl166, cl167, cl168, cl169, cl170, gds0, gds1, gds2, cl0, cl1, cl2, Nat.reduceAdd, Nat.add_zero]
      rfl
    · simp only [if_neg (show ¬ nI 12 = 0 by decide), if_neg (show ¬ nI 12 = 1 by decide), if_neg (show ¬ nI 12 = 2 by decide), if_neg (show ¬ nI 12 = 3 by decide), if_neg (show ¬ nI 12 = 4 by decide), if_neg (show ¬ nI 12 = 5 by decide), if_neg (show ¬ nI 12 = 6 by decide), if_neg (show ¬ nI 12 = 7 by decide), if_neg (show ¬ nI 12 = 8 by decide), if_neg (show ¬ nI 12 = 9 by decide), if_neg (show ¬ nI 12 = 10 by decide), if_neg (show ¬ nI 12 = 11 by decide), if_pos (show nI 12 = 12 by decide), ob, gdm162, gdm163, gdm164, gdm165, gdm166, gdm167, gdm168, gdm169, gdm170, cl162, cl163, cl164, cl165, cl166, cl167, cl168, cl169, cl170, gds0, gds1, gds2, cl0, cl1, cl2, Nat.reduceAdd, Nat.add_zero]
      rfl
    · simp only [if_neg (show ¬ nI 13 = 0 by decide), if_neg (show ¬ nI 13 = 1 by decide), if_neg (show ¬ nI 13 = 2 by decide), if_neg (show ¬ nI 13 = 3 by decide), if_neg (show ¬ nI 13 = 4 by decide), if_neg (show ¬ nI 13 = 5 by decide), if_neg (show ¬ nI 13 = 6 by decide), if_neg (show ¬ nI 13 = 7 by decide), if_neg (show ¬ nI 13 = 8 by decide), if_neg (show ¬ nI 13 = 9 by decide), if_neg (show ¬ nI 13 = 10 by decide), if_neg (show ¬ nI 13 = 11 by decide), if_neg (show ¬ nI 13 = 12 by decide), ob, gdm162, gdm163, gdm164, gdm165, gdm166, gdm167, gdm168, gdm169, gdm170, cl162, cl163, cl164, cl165, cl166, cl167, cl168, cl169, cl170, gds0, gds1, gds2, cl0, cl1, cl2, Nat.reduceAdd, Nat.add_zero]
      rfl
  unfold f6_count_0
  rw [key, ob, if_pos rfl]
theorem cn_bad {x : Int32} (hx : ¬ (0 ≤ x ∧ x ≤ 13)) : f6_count_0 mu x = some (-2) := by
  unfold f6_count_0 f4_count_0
  rw [iw_s, ob, b01_f hx, if_pos rfl, ob, if_neg n20, if_pos rfl]
def crV (w : Vc) (c : Nat) : Nat → Int32
  | 0 => w (90 + 9 * c + 0)
  | 1 => w (90 + 9 * c + 1)
  | 2 => w (90 + 9 * c + 2)
  | 3 => w (90 + 9 * c + 3)
  | 4 => w (90 + 9 * c + 4)
  | 5 => w (90 + 9 * c + 5)
  | 6 => fF (w (90 + 9 * c + 2)) (w (90 + 9 * c + 5))
  | 7 => w (90 + 9 * c + 6)
  | 8 => w (90 + 9 * c + 7)
  | _ => w (90 + 9 * c + 8)
theorem cr_s {c j : Nat} (h : AS mu S) (hN : N ≤ 8) (hw : S.1 162 = nI N) (hc : c < N) (hj : j ≤ 9) : f6_carOf_0 mu (nI c) (nI j) = some (crV S.1 c j) := by
  obtain ⟨h1, h2, h3, h5, h6, h7, h8⟩ := h
  have key : f4_carOf_0 mu (nI c) (nI j) = some (0, crV S.1 c j) := by
    unfold f4_carOf_0
    rw [h1, hasC_s hN hw hc, ob, if_neg n10, iw_s, ob, b01_t ⟨(n_le (a := 0) (by omega) (by omega)).mpr (by omega), (n_le (b := 9) (by omega) (by omega)).mpr hj⟩, if_neg n10, gd_n (by omega) (by omega), cl_n (by omega)]
    have hf : f0_force_0 c S.1 = some (fF (S.1 (90 + 9 * c + 2)) (S.1 (90 + 9 * c + 5))) := by
      have := fo_c (q := S.1) (c := c) (a0 := S.1 (90 + 9 * c + 0)) (a1 := S.1 (90 + 9 * c + 1)) (a2 := S.1 (90 + 9 * c + 2)) (a3 := S.1 (90 + 9 * c + 3)) (a4 := S.1 (90 + 9 * c + 4)) (a5 := S.1 (90 + 9 * c + 5)) (a6 := S.1 (90 + 9 * c + 6)) (a7 := S.1 (90 + 9 * c + 7)) (a8 := S.1 (90 + 9 * c + 8))
      rw [← s9_of] at this
      exact this
    unfold f0_number_0
    rw [hf, ob]
    obtain rfl | rfl | rfl | rfl | rfl | rfl | rfl | rfl | rfl | rfl : j = 0 ∨ j = 1 ∨ j = 2 ∨ j = 3 ∨ j = 4 ∨ j = 5 ∨ j = 6 ∨ j = 7 ∨ j = 8 ∨ j = 9 := by omega
    · simp only [if_neg (show ¬ nI 0 = 1 by decide), if_neg (show ¬ nI 0 = 2 by decide), if_neg (show ¬ nI 0 = 3 by decide), if_neg (show ¬ nI 0 = 4 by decide), if_neg (show ¬ nI 0 = 5 by decide), if_neg (show ¬ nI 0 = 6 by decide), if_neg (show ¬ nI 0 = 7 by decide), if_neg (show ¬ nI 0 = 8 by decide), if_pos (show nI 0 = 0 by decide), ob]
      rfl
    · simp only [if_neg (show ¬ nI 1 = 0 by decide), if_neg (show ¬ nI 1 = 2 by decide), if_neg (show ¬ nI 1 = 3 by decide), if_neg (show ¬ nI 1 = 4 by decide), if_neg (show ¬ nI 1 = 5 by decide), if_neg (show ¬ nI 1 = 6 by decide), if_neg (show ¬ nI 1 = 7 by decide), if_neg (show ¬ nI 1 = 8 by decide), if_pos (show nI 1 = 1 by decide), ob]
      rfl
    · simp only [if_neg (show ¬ nI 2 = 0 by decide), if_neg (show ¬ nI 2 = 1 by decide), if_neg (show ¬ nI 2 = 3 by decide), if_neg (show ¬ nI 2 = 4 by decide), if_neg (show ¬ nI 2 = 5 by decide), if_neg (show ¬ nI 2 = 6 by decide), if_neg (show ¬ nI 2 = 7 by decide), if_neg (show ¬ nI 2 = 8 by decide), if_pos (show nI 2 = 2 by decide), ob]
      rfl
    · simp only [if_neg (show ¬ nI 3 = 0 by decide), if_neg (show ¬ nI 3 = 1 by decide), if_neg (show ¬ nI 3 = 2 by decide), if_neg (show ¬ nI 3 = 4 by decide), if_neg (show ¬ nI 3 = 5 by decide), if_neg (show ¬ nI 3 = 6 by decide), if_neg (show ¬ nI 3 = 7 by decide), if_neg (show ¬ nI 3 = 8 by decide), if_pos (show nI 3 = 3 by decide), ob]
      rfl
    · simp only [if_neg (show ¬ nI 4 = 0 by decide), if_neg (show ¬ nI 4 = 1 by decide), if_neg (show ¬ nI 4 = 2 by decide), if_neg (show ¬ nI 4 = 3 by decide), if_neg (show ¬ nI 4 = 5 by decide), if_neg (show ¬ nI 4 = 6 by decide), if_neg (show ¬ nI 4 = 7 by decide), if_neg (show ¬ nI 4 = 8 by decide), if_pos (show nI 4 = 4 by decide), ob]
      rfl
    · simp only [if_neg (show ¬ nI 5 = 0 by decide), if_neg (show ¬ nI 5 = 1 by decide), if_neg (show ¬ nI 5 = 2 by decide), if_neg (show ¬ nI 5 = 3 by decide), if_neg (show ¬ nI 5 = 4 by decide), if_neg (show ¬ nI 5 = 6 by decide), if_neg (show ¬ nI 5 = 7 by decide), if_neg (show ¬ nI 5 = 8 by decide), if_pos (show nI 5 = 5 by decide), ob]
      rfl
    · simp only [if_neg (show ¬ nI 6 = 0 by decide), if_neg (show ¬ nI 6 = 1 by decide), if_neg (show ¬ nI 6 = 2 by decide), if_neg (show ¬ nI 6 = 3 by decide), if_neg (show ¬ nI 6 = 4 by decide), if_neg (show ¬ nI 6 = 5 by decide), if_neg (show ¬ nI 6 = 7 by decide), if_neg (show ¬ nI 6 = 8 by decide), if_pos (show nI 6 = 6 by decide), ob]
      rfl
    · simp only [if_neg (show ¬ nI 7 = 0 by decide), if_neg (show ¬ nI 7 = 1 by decide), if_neg (show ¬ nI 7 = 2 by decide), if_neg (show ¬ nI 7 = 3 by decide), if_neg (show ¬ nI 7 = 4 by decide), if_neg (show ¬ nI 7 = 5 by decide), if_neg (show ¬ nI 7 = 6 by decide), if_neg (show ¬ nI 7 = 8 by decide), if_pos (show nI 7 = 7 by decide), ob]
      rfl
    · simp only [if_neg (show ¬ nI 8 = 0 by decide), if_neg (show ¬ nI 8 = 1 by decide), if_neg (show ¬ nI 8 = 2 by decide), if_neg (show ¬ nI 8 = 3 by decide), if_neg (show ¬ nI 8 = 4 by decide), if_neg (show ¬ nI 8 = 5 by decide), if_neg (show ¬ nI 8 = 6 by decide), if_neg (show ¬ nI 8 = 7 by decide), if_pos (show nI 8 = 8 by decide), ob]
      rfl
    · simp only [if_neg (show ¬ nI 9 = 0 by decide), if_neg (show ¬ nI 9 = 1 by decide), if_neg (show ¬ nI 9 = 2 by decide), if_neg (show ¬ nI 9 = 3 by decide), if_neg (show ¬ nI 9 = 4 by decide), if_neg (show ¬ nI 9 = 5 by decide), if_neg (show ¬ nI 9 = 6 by decide), if_neg (show ¬ nI 9 = 7 by decide), if_neg (show ¬ nI 9 = 8 by decide), ob]
      rfl
  unfold f6_carOf_0
  rw [key, ob, if_pos rfl]
theorem cr_no {x y : Int32} (h : AS mu S) (hN : N ≤ 8) (hw : S.1 162 = nI N) (hx : ¬ (0 ≤ x ∧ x < nI N)) : f6_carOf_0 mu x y = some (-3) := by
  unfold f6_carOf_0 f4_carOf_0
  rw [h.1, hasCar_s hN hw, ob, b01_f hx, if_pos rfl, ob, if_neg n10, if_pos rfl]
theorem cr_bad {c : Nat} {y : Int32} (h : AS mu S) (hN : N ≤ 8) (hw : S.1 162 = nI N) (hc : c < N) (hy : ¬ (0 ≤ y ∧ y ≤ 9)) : f6_carOf_0 mu (nI c) y = some (-2) := by
  unfold f6_carOf_0 f4_carOf_0
  rw [h.1, hasC_s hN hw hc, ob, if_neg n10, iw_s, ob, b01_f hy, if_pos rfl, ob, if_neg n20, if_neg (show ¬ (2 : Int32) = 1 by decide), if_pos rfl]
theorem ca_s {j : Nat} (h : AS mu S) (hN : N ≤ 8) (hw : S.1 162 = nI N) (hj : j ≤ 4) : f6_cars_0 mu (nI j) = some (mkN (isSt S.1 (nI j)) N) := by
  unfold f6_cars_0 f4_cars_0
  rw [iw_s, ob, b01_t ⟨(n_le (a := 0) (by omega) (by omega)).mpr (by omega), (n_le (b := 4) (by omega) (by omega)).mpr hj⟩, if_neg n10, h.1, cis_s hN hw, ob, ob, if_pos rfl]
theorem ca_bad {x : Int32} (hx : ¬ (0 ≤ x ∧ x ≤ 4)) : f6_cars_0 mu x = some (-2) := by
  unfold f6_cars_0 f4_cars_0
  rw [iw_s, ob, b01_f hx, if_pos rfl, ob, if_neg n20, if_pos rfl]
def seV (w : Vc) (N p : Nat) : Nat → Int32
  | 0 => w p
  | 1 => w (30 + p)
  | 2 => mkN (inSec w 1 (nI p)) N
  | 3 => mkN (inSec w 3 (nI p)) N
  | _ => w (60 + p)
theorem se_s {p j : Nat} (h : AS mu S) (hN : N ≤ 8) (hw : S.1 162 = nI N) (hp : p < 30) (hj : j ≤ 4) : f6_section_0 mu (nI p) (nI j) = some (seV S.1 N p j) := by
  have key : f4_section_0 mu (nI p) (nI j) = some (0, seV S.1 N p j) := by
    unfold f4_section_0
    rw [rgq 0 29 30 _ _ rfl, if_pos ⟨(n_le (a := 0) (by omega) (by omega)).mpr (by omega), (n_le (b := 29) (by omega) (by omega)).mpr (by omega)⟩]
    unfold f4_section_15
    rw [if_neg n10, iw_s, ob, b01_t ⟨(n_le (a := 0) (by omega) (by omega)).mpr (by omega), (n_le (b := 4) (by omega) (by omega)).mpr hj⟩, if_neg n10]
    simp (disch := omega) only [gd_n, cl_n, h.1, cic_s hN hw, ob]
    obtain rfl | rfl | rfl | rfl | rfl : j = 0 ∨ j = 1 ∨ j = 2 ∨ j = 3 ∨ j = 4 := by omega
    · simp only [if_neg (show ¬ nI 0 = 1 by decide), if_neg (show ¬ nI 0 = 2 by decide), if_neg (show ¬ nI 0 = 3 by decide), if_pos (show nI 0 = 0 by decide)]
      rfl
    · simp only [if_neg (show ¬ nI 1 = 0 by decide), if_neg (show ¬ nI 1 = 2 by decide), if_neg (show ¬ nI 1 = 3 by decide), if_pos (show nI 1 = 1 by decide)]
      rfl
    · simp only [if_neg (show ¬ nI 2 = 0 by decide), if_neg (show ¬ nI 2 = 1 by decide), if_neg (show ¬ nI 2 = 3 by decide), if_pos (show nI 2 = 2 by decide)]
      rfl
    · simp only [if_neg (show ¬ nI 3 = 0 by decide), if_neg (show ¬ nI 3 = 1 by decide), if_neg (show ¬ nI 3 = 2 by decide), if_pos (show nI 3 = 3 by decide)]
      rfl
    · simp only [if_neg (show ¬ nI 4 = 0 by decide), if_neg (show ¬ nI 4 = 1 by decide), if_neg (show ¬ nI 4 = 2 by decide), if_neg (show ¬ nI 4 = 3 by decide)]
      rfl
  unfold f6_section_0
  rw [key, ob, if_pos rfl]
theorem se_no {x y : Int32} (hx : ¬ (0 ≤ x ∧ x ≤ 29)) : f6_section_0 mu x y = some (-3) := by
  unfold f6_section_0 f4_section_0 f4_section_14 f4_section_15
  rw [rgq 0 29 30 _ _ rfl, if_neg hx, if_pos rfl, ob, if_neg n10, if_pos rfl]
theorem se_bad {p : Nat} {y : Int32} (hp : p < 30) (hy : ¬ (0 ≤ y ∧ y ≤ 4)) : f6_section_0 mu (nI p) y = some (-2) := by
  unfold f6_section_0 f4_section_0 f4_section_14 f4_section_15
  rw [rgq 0 29 30 _ _ rfl, if_pos ⟨(n_le (a := 0) (by omega) (by omega)).mpr (by omega), (n_le (b := 29) (by omega) (by omega)).mpr (by omega)⟩, if_neg n10, iw_s, ob, b01_f hy, if_pos rfl, ob, if_neg n20, if_neg (show ¬ (2 : Int32) = 1 by decide), if_pos rfl]
theorem ro_sJ {k : Nat} (h : AS mu S) (hN : N ≤ 8) (hw : S.1 162 = nI N) (hk : k < 2 ^ 31) : ∃ r, f6_rolling_0 mu (nI k) = some r ∧ ((∃ c, c < N ∧ isSt S.1 1 c = true ∧ rk S.1 c N = k ∧ r = nI c) ∨ (r = -1 ∧ ∀ c, c < N → isSt S.1 1 c = true → rk S.1 c N ≠ k)) := by
  obtain ⟨a, e, ha⟩ := rl_l (x := nI k) h.1 (as_i h) hN hw N 0 fu rfl (by omega) (by rw [fu_eq]; omega)
  have e' : f4_rolling_14 mu fu (nI k) 0 = some a := e
  have hn : ∀ c, rk S.1 c N < 2 ^ 31 := fun c => by
    have h1 : rk S.1 c N ≤ nr S.1 N := rk_nr'
    have h2 := nr_le (w := S.1) (j := N)
    omega
  have e6 : f6_rolling_0 mu (nI k) = if a.1 = 0 then some a.2 else if a.1 = 2 then some (-2) else none := by
    unfold f6_rolling_0 f4_rolling_0 f4_rolling_9
    rw [if_neg (nI_n0 hk), if_neg n10, e', ob]
  rw [e6]
  rcases ha with ⟨c, hc, hs, hr, rfl⟩ | ⟨rfl, hno⟩
  · exact ⟨nI c, if_pos rfl, Or.inl ⟨c, hc, hs, (n_eq (hn c) hk).mp hr, rfl⟩⟩
  · exact ⟨-1, if_pos rfl, Or.inr ⟨rfl, fun c hc hs e => hno c (by omega) hc hs (by rw [e])⟩⟩
theorem ro_bad {x : Int32} (hx : x < 0) : f6_rolling_0 mu x = some (-2) := by
  unfold f6_rolling_0 f4_rolling_0 f4_rolling_9
  rw [if_pos hx, if_pos rfl, ob, if_neg n20, if_pos rfl]
theorem re_1 {c : Nat} (h : AS mu S) (hN : N ≤ 8) (hw : S.1 162 = nI N) (hc : c < N) : f6_refusal_0 mu (nI c) 1 = some (if S.1 (90 + 9 * c + 0) = 0 then (if bar S.1 N then 2 else 0) else 1) := by
  unfold f6_refusal_0 f4_refusal_0 f4_refusal_34
  rw [h.1, hasC_s hN hw hc, ob, if_neg n10, if_neg n10, rr_s hN hw hc, ob, ob, if_pos rfl]
theorem re_0 {c : Nat} (h : AS mu S) (hN : N ≤ 8) (hw : S.1 162 = nI N) (hc : c < N) : f6_refusal_0 mu (nI c) 0 = some (if S.1 (90 + 9 * c + 0) = 2 ∨ S.1 (90 + 9 * c + 0) = 3 then (if fmul S.1 N = 0 then 2 else 0) else 1) := by
  unfold f6_refusal_0 f4_refusal_0 f4_refusal_34
  rw [h.1, hasC_s hN hw hc, ob, if_neg n10, if_pos rfl, pr_s hN hw hc, ob, ob, if_pos rfl]
theorem re_no {x y : Int32} (h : AS mu S) (hN : N ≤ 8) (hw : S.1 162 = nI N) (hx : ¬ (0 ≤ x ∧ x < nI N)) : f6_refusal_0 mu x y = some (-3) := by
  unfold f6_refusal_0 f4_refusal_0
  rw [h.1, hasCar_s hN hw, ob, b01_f hx, if_pos rfl, ob, if_neg n10, if_pos rfl]
end Questions
/-- ticks, one by one -/
def tkT : Nat → Vc → Vc
  | 0, w => w
  | n + 1, w => tkT n (tk w)
theorem tkT_s {T : Nat} {w : Vc} : tkT T (tk w) = tk (tkT T w) := by
  induction T generalizing w with
  | zero => rfl
  | succ n ih => exact ih
theorem pt_J {N T : Nat} (hT : T < 999) : ∀ d t fuel (B : Int) (w v2 : Vc), T - t = d → t ≤ T → d < fuel → JN B N w → 0 ≤ B → B + 200 * (d : Int) ≤ 900000000 →
    ∃ v2', f3_passTicks_2 fuel (nI T) (nI t) w v2 = some (tkT d w, v2') ∧ JN (B + 200 * (d : Int)) N (tkT d w) ∧ stR N w (tkT d w) := by
  intro d
  induction d with
  | zero =>
    intro t fuel B w v2 hd ht hf hJ hB0 hB
    obtain ⟨m, rfl⟩ : ∃ m, fuel = m + 1 := ⟨fuel - 1, by omega⟩
    obtain rfl : t = T := by omega
    exact ⟨v2, by simp (disch := omega) only [f3_passTicks_2, if_pos (Int32.le_refl _)]; rfl, jn_mono hJ (by omega), stR_r⟩
  | succ d ih =>
    intro t fuel B w v2 hd ht hf hJ hB0 hB
    obtain ⟨m, rfl⟩ : ∃ m, fuel = m + 1 := ⟨fuel - 1, by omega⟩
    obtain ⟨j1, j2⟩ := ti_J hJ hB0 (by omega)
    obtain ⟨-, -, hk⟩ := tk_s hJ.1 hJ.2.1 hJ.2.2.1
    obtain ⟨a2, a7, a8, q1, q2⟩ := hk v2 (fun _ => 0) (fun _ => 0)
    obtain ⟨b2, p1, p2, p3⟩ := ih (t + 1) m (B + 200) (tk w) a2 (by omega) (by omega) (by omega) j1 (by omega) (by omega)
    have hnt : ¬ nI T ≤ nI t := by rw [n_le (by omega) (by omega)]; omega
    refine ⟨b2, ?_, jn_mono p2 (by omega), stR_t j2 p3⟩
    show _ = some (tkT d (tk w), b2)
    rw [← p1]
    simp (disch := omega) only [f3_passTicks_2, if_neg hnt, q1, ob, ad_1]
theorem pa_J {N T : Nat} {B : Int} {w : Vc} (hT : T < 999) (hJ : JN B N w) (hB0 : 0 ≤ B) (hB : B + 200 * (T : Int) ≤ 900000000) (v2 : Vc) :
    ∃ v2', f3_passTicks_0 (nI T) w v2 = some (tkT T w, v2') ∧ JN (B + 200 * (T : Int)) N (tkT T w) ∧ stR N w (tkT T w) :=
  pt_J hT T 0 fu B w v2 rfl (by omega) (by rw [fu_eq]; omega) hJ hB0 hB
def irV (w : Vc) (N T : Nat) : Nat → Int32
  | 0 => tkT T w 165 - w 165
  | 1 => tkT T w 166 - w 166
  | 2 => mkN (isSt (tkT T w) 3) N
  | _ => mkN (isSt (tkT T w) 1) N
theorem ir_s {mu : Nat → Nat → Int32} {S : Stt} {N T j : Nat} {B : Int} (h : AS mu S) (hJ : JN B N S.1) (hB0 : 0 ≤ B) (hB : B + 200 * (T : Int) ≤ 900000000) (hT : 1 ≤ T) (hT2 : T ≤ 200) (hj : j = 0 ∨ j = 1 ∨ j = 2 ∨ j = 4) : ∃ mu', f6_ifRun_0 (nI T) (nI j) mu = some (irV S.1 N T j, mu') ∧ AS mu' S := by
  have hI := as_i h
  have hA := h
  obtain ⟨h1, h2, h3, h5, h6, h7, h8⟩ := h
  have hN := hJ.2.1
  have hw := hJ.2.2.1
  obtain ⟨a2, e1, e2, e3⟩ := pa_J (show T < 999 by omega) hJ hB0 hB (mu 21)
  have hA2 : AS (s1 (s1 (s1 mu 1 S.1) 21 a2) 1 (tkT T S.1)) S := as_t (as_n (as_t hA hI) (by omega)) e2.1
  have z1 : s1 (s1 (s1 mu 1 S.1) 21 a2) 1 (tkT T S.1) 1 = tkT T S.1 := s1_k
  have z0 : s1 (s1 (s1 mu 1 S.1) 21 a2) 1 (tkT T S.1) 0 = S.1 := hA2.1
  refine ⟨_, ?_, hA2⟩
  unfold f6_ifRun_0 f4_ifRun_0
  rw [iw_s, ob, b01_t ⟨(n_le (a := 1) (by omega) (by omega)).mpr (by omega), (n_le (b := 200) (by omega) (by omega)).mpr hT2⟩, if_neg n10, iw_s, ob, b01_t ⟨(n_le (a := 0) (by omega) (by omega)).mpr (by omega), (n_le (b := 4) (by omega) (by omega)).mpr (by omega)⟩, if_neg n10, cp_i (h2 0 (by omega)) (h2 1 (by omega)), ob, h1]
  show Option.bind (Option.bind (f3_passTicks_0 (nI T) (s1 mu 1 S.1 1) (s1 mu 1 S.1 21)) _) _ = _
  rw [s1_k, s1_n (show 21 ≠ 1 by omega), e1, ob]
  simp only [Nat.reduceAdd, z0, z1, cis_s hN e2.2.2.1, bu_s hN e2.2.2.1, bu_s hN hw, ob]
  rcases hj with rfl | rfl | rfl | rfl
  · simp only [if_pos (show nI 0 = 0 by decide), ob, if_true]; rfl
  · simp only [if_neg (show ¬ nI 1 = 0 by decide), if_pos (show nI 1 = 1 by decide), ob, if_true]; rfl
  · simp only [if_neg (show ¬ nI 2 = 0 by decide), if_neg (show ¬ nI 2 = 1 by decide), if_pos (show nI 2 = 2 by decide), ob, if_true]; rfl
  · simp only [if_neg (show ¬ nI 4 = 0 by decide), if_neg (show ¬ nI 4 = 1 by decide), if_neg (show ¬ nI 4 = 2 by decide), if_neg (show ¬ nI 4 = 3 by decide), ob, if_true]; rfl
/-! meanSpeed -/
def fcB (n : Nat) : Nat → Bool
  | 0 => true
  | s + 1 => decide (Op.cmpValue (FP.fcmp (FP.fdiv (FP.i2f (nI s)) (FP.i2f (nI n))) (FP.fdiv (FP.i2f (nI s)) (FP.i2f (nI n)))) .l = 0) && fcB n s
theorem fcB_s {n : Nat} : ∀ {m s : Nat}, fcB n m = true → s < m → Op.cmpValue (FP.fcmp (FP.fdiv (FP.i2f (nI s)) (FP.i2f (nI n))) (FP.fdiv (FP.i2f (nI s)) (FP.i2f (nI n)))) .l = 0
  | 0, s, _, hs => by omega
  | m + 1, s, h, hs => by
    rw [fcB, Bool.and_eq_true] at h
    by_cases e : s = m
    · subst e; exact of_decide_eq_true h.1
    · exact fcB_s h.2 (by omega)
theorem fcB1 : fcB 1 321 = true := by decide +kernel
theorem fcB2 : fcB 2 321 = true := by decide +kernel
theorem fcB3 : fcB 3 321 = true := by decide +kernel
theorem fcB4 : fcB 4 321 = true := by decide +kernel
theorem fcB5 : fcB 5 321 = true := by decide +kernel
theorem fcB6 : fcB 6 321 = true := by decide +kernel
theorem fcB7 : fcB 7 321 = true := by decide +kernel
theorem fcB8 : fcB 8 321 = true := by decide +kernel
theorem fc_ok {s n : Nat} (hs : s ≤ 320) (h1 : 1 ≤ n) (hn : n ≤ 8) : Op.cmpValue (FP.fcmp (FP.fdiv (FP.i2f (nI s)) (FP.i2f (nI n))) (FP.fdiv (FP.i2f (nI s)) (FP.i2f (nI n)))) .l = 0 := by
  obtain rfl | rfl | rfl | rfl | rfl | rfl | rfl | rfl : n = 1 ∨ n = 2 ∨ n = 3 ∨ n = 4 ∨ n = 5 ∨ n = 6 ∨ n = 7 ∨ n = 8 := by omega
  · exact fcB_s fcB1 (by omega)
  · exact fcB_s fcB2 (by omega)
  · exact fcB_s fcB3 (by omega)
  · exact fcB_s fcB4 (by omega)
  · exact fcB_s fcB5 (by omega)
  · exact fcB_s fcB6 (by omega)
  · exact fcB_s fcB7 (by omega)
  · exact fcB_s fcB8 (by omega)
theorem fc_0 : Op.cmpValue (FP.fcmp FP.fconst0 FP.fconst0) .l = 0 := by decide +kernel
theorem ms_s {w : Vc} {N : Nat} (hI : Inv w) (hN : N ≤ 8) (hw : w 162 = nI N) : ∃ r, (∀ mu : Nat → Nat → Int32, mu 0 = w → f4_meanSpeed_0 mu = some r) ∧ Op.cmpValue (FP.fcmp r r) .l = 0 ∧ (nr w N = 0 → r = FP.fconst0) := by
  obtain ⟨s, hs, es⟩ := spN_s hI N hN
  have key : ∀ mu : Nat → Nat → Int32, mu 0 = w → f4_meanSpeed_0 mu = (if nI (nr w N) = 0 then some FP.fconst0 else gf (FP.fdiv (FP.i2f (nI s)) (FP.i2f (nI (nr w N)))) (some (FP.fdiv (FP.i2f (nI s)) (FP.i2f (nI (nr w N)))))) := by
    intro mu h1
    obtain ⟨s', m, g1, g2⟩ := lp_k (σ := Int32 × Int32) (L := fun m s j => f4_meanSpeed_6 mu m s.1 s.2 j) (N := N) (P := fun j s => s = (smN (spN w) j, nI (nr w j))) (by
      intro m s j hj hs
      subst hs
      refine ⟨_, rfl, ?_⟩
      show f4_meanSpeed_6 mu (m + 1) (smN (spN w) j) (nI (nr w j)) (nI j) = f4_meanSpeed_6 mu m (smN (spN w) j + spN w j) (nI (nr w (j + 1))) (nI (j + 1))
      simp (disch := omega) only [f4_meanSpeed_6, f4_meanSpeed_51, h1, hw, n_le, if_neg (show ¬ N ≤ j by omega), gd_n, cl_n, ad_1]
      unfold spN
      by_cases hs : w (90 + 9 * j + 0) = 1
      · rw [if_pos hs, if_pos (st_i.mpr hs), nr_t (st_i.mpr hs)]
      · rw [if_neg hs, if_neg (fun q => hs (st_i.mp q)), nr_f (by simpa using fun q => hs (st_i.mp q)), Int32.add_zero]) N fu 0 (0, 0) rfl (by omega) rfl (by rw [fu_eq]; omega)
    subst g1
    unfold f4_meanSpeed_0
    refine Eq.trans g2 ?_
    show f4_meanSpeed_6 mu (m + 1) (smN (spN w) N) (nI (nr w N)) (nI N) = _
    simp only [f4_meanSpeed_6, f4_meanSpeed_70, h1, hw, if_pos (Int32.le_refl _), es]
  have hn := nr_le (w := w) (j := N)
  by_cases h0 : nr w N = 0
  · refine ⟨FP.fconst0, fun mu h1 => ?_, fc_0, fun _ => rfl⟩
    rw [key mu h1, h0, if_pos (by decide)]
  · have hz : ¬ nI (nr w N) = 0 := by rw [show (0 : Int32) = nI 0 from rfl, n_eq (by omega) (by omega)]; exact h0
    refine ⟨FP.fdiv (FP.i2f (nI s)) (FP.i2f (nI (nr w N))), fun mu h1 => ?_, fc_ok (by omega) (by omega) (by omega), fun e => absurd e h0⟩
    rw [key mu h1, if_neg hz]
    unfold gf
    rw [if_pos (fok (by omega) (by omega) (by omega))]
