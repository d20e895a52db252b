/-! p29: what holds of every state that the law can bring about -/
def smI (f : Nat → Int) : Nat → Int
  | 0 => 0
  | n + 1 => smI f n + f n
theorem smI_congr {f g : Nat → Int} : ∀ {n : Nat}, (∀ d, d < n → g d = f d) → smI g n = smI f n
  | 0, _ => rfl
  | n + 1, h => by
    have h1 := smI_congr (n := n) (fun d hd => h d (by omega))
    have h2 := h n (by omega)
    show smI g n + g n = smI f n + f n
    rw [h1, h2]
theorem smI_upd {f g : Nat → Int} {c : Nat} : ∀ {n : Nat}, c < n → (∀ d, d < n → d ≠ c → g d = f d) → smI g n = smI f n + (g c - f c)
  | 0, h, _ => by omega
  | n + 1, h, e => by
    show smI g n + g n = smI f n + f n + (g c - f c)
    by_cases q : c = n
    · subst q
      rw [smI_congr (fun d hd => e d (by omega) (by omega))]
      omega
    · rw [smI_upd (n := n) (by omega) (fun d hd hne => e d (by omega) hne), e n (by omega) (fun x => q x.symm)]
      omega
theorem smI_nn {f : Nat → Int} : ∀ {n : Nat}, (∀ d, d < n → 0 ≤ f d) → 0 ≤ smI f n
  | 0, _ => Int.le_refl _
  | n + 1, h => by
    have h1 := smI_nn (n := n) (fun d hd => h d (by omega))
    have h2 := h n (by omega)
    show 0 ≤ smI f n + f n
    omega
theorem smI_le {f : Nat → Int} {c : Nat} : ∀ {n : Nat}, c < n → (∀ d, d < n → 0 ≤ f d) → f c ≤ smI f n
  | 0, h, _ => by omega
  | n + 1, h, e => by
    show f c ≤ smI f n + f n
    have h2 := e n (by omega)
    have h3 := smI_nn (f := f) (n := n) (fun d hd => e d (by omega))
    by_cases q : c = n
    · subst q; omega
    · have h1 := smI_le (f := f) (n := n) (c := c) (by omega) (fun d hd => e d (by omega))
      omega
/-- a car -/
def carP (B : Int) (R : Nat → Int32) (a0 a1 a2 a3 a4 a6 a7 a8 : Int32) : Prop :=
  (a0 ≠ 1 → a3 = 0) ∧ (a0 = 0 → a4 = 0) ∧ (a0 = 2 → a4 = 300 ∧ a1 = 0 ∧ a2 = 0) ∧ (a0 = 3 → ∃ m, 1 ≤ m ∧ m < 30 ∧ a4 = nI (10 * m) ∧ 0 < (R (60 + m)).toInt) ∧ (a0 = 4 → 0 < a4.toInt ∧ a2 = 0) ∧ (a3.toInt ≤ a8.toInt ∧ a8.toInt ≤ 40) ∧ (0 ≤ a6.toInt ∧ a6.toInt ≤ B) ∧ (0 ≤ a7.toInt ∧ a7.toInt ≤ B)
def carW (B : Int) (w : Nat → Int32) (c : Nat) : Prop := carP B w (w (90 + 9 * c + 0)) (w (90 + 9 * c + 1)) (w (90 + 9 * c + 2)) (w (90 + 9 * c + 3)) (w (90 + 9 * c + 4)) (w (90 + 9 * c + 6)) (w (90 + 9 * c + 7)) (w (90 + 9 * c + 8))
theorem carP_mono {B B' : Int} {R R' : Nat → Int32} {a0 a1 a2 a3 a4 a6 a7 a8 : Int32} (h : carP B R a0 a1 a2 a3 a4 a6 a7 a8) (hB : B ≤ B') (hR : ∀ m, m < 30 → (R (60 + m)).toInt ≤ (R' (60 + m)).toInt) : carP B' R' a0 a1 a2 a3 a4 a6 a7 a8 := by
  obtain ⟨h1, h2, h3, h4, h5, h6, h7, h8⟩ := h
  refine ⟨h1, h2, h3, fun e => ?_, h5, h6, ⟨h7.1, by omega⟩, ⟨h8.1, by omega⟩⟩
  obtain ⟨m, m1, m2, m3, m4⟩ := h4 e
  have := hR m m2
  exact ⟨m, m1, m2, m3, by omega⟩
/-- rolling cars are ten apart -/
def farW (w : Nat → Int32) (N : Nat) : Prop := ∀ c d, c < N → d < N → c ≠ d → w (90 + 9 * c + 0) = 1 → w (90 + 9 * d + 0) = 1 → (w (90 + 9 * c + 4)).toInt + 10 ≤ (w (90 + 9 * d + 4)).toInt ∨ (w (90 + 9 * d + 4)).toInt + 10 ≤ (w (90 + 9 * c + 4)).toInt
def oreI (w : Nat → Int32) (c : Nat) : Int := (w (90 + 9 * c + 1)).toInt
def delI (w : Nat → Int32) (c : Nat) : Int := (w (90 + 9 * c + 6)).toInt
def JN (B : Int) (N : Nat) (w : Nat → Int32) : Prop :=
  Inv w ∧ N ≤ 8 ∧ w 162 = nI N ∧ (∀ c, c < N → carW B w c) ∧ farW w N ∧ (w 164).toInt = (w 165).toInt + (w 166).toInt + smI (oreI w) N ∧ (w 165).toInt = smI (delI w) N ∧ (0 ≤ (w 165).toInt ∧ 0 ≤ (w 166).toInt ∧ (w 164).toInt ≤ B) ∧ (0 ≤ (w 163).toInt ∧ (w 163).toInt ≤ B) ∧ (∀ m, m < 30 → 0 ≤ (w (60 + m)).toInt ∧ (w (60 + m)).toInt ≤ B)
theorem jn_mono {B B' : Int} {N : Nat} {w : Nat → Int32} (h : JN B N w) (hB : B ≤ B') : JN B' N w := by
  obtain ⟨h1, h2, h3, h4, h5, h6, h7, h8, h9, h10⟩ := h
  exact ⟨h1, h2, h3, fun c hc => carP_mono (h4 c hc) hB (fun m _ => Int.le_refl _), h5, h6, h7, ⟨h8.1, h8.2.1, by omega⟩, ⟨h9.1, by omega⟩, fun m hm => ⟨(h10 m hm).1, by have := (h10 m hm).2; omega⟩⟩
theorem sml_t {x : Int32} {M : Nat} (h : sml x M) (hM : M < 2 ^ 31) : 0 ≤ x.toInt ∧ x.toInt ≤ (M : Int) := sml_i h hM
/-- a car's cells are written anew -/
theorem jn_s9 {B B' : Int} {N c : Nat} {w q : Nat → Int32} {a0 a1 a2 a3 a4 a5 a6 a7 a8 : Int32} (h : JN B N w) (hB : B ≤ B') (hc : c < N)
    (hI : Inv (s9 q c a0 a1 a2 a3 a4 a5 a6 a7 a8)) (hq : ∀ i, 90 ≤ i → i < 163 → q i = w i)
    (hm : ∀ m, m < 30 → (w (60 + m)).toInt ≤ (q (60 + m)).toInt ∧ (q (60 + m)).toInt ≤ B')
    (hP : carP B' q a0 a1 a2 a3 a4 a6 a7 a8)
    (hf : a0 = 1 → ∀ d, d < N → d ≠ c → w (90 + 9 * d + 0) = 1 → a4.toInt + 10 ≤ (w (90 + 9 * d + 4)).toInt ∨ (w (90 + 9 * d + 4)).toInt + 10 ≤ a4.toInt)
    (hs : (q 164).toInt - (w 164).toInt = ((q 165).toInt - (w 165).toInt) + ((q 166).toInt - (w 166).toInt) + (a1.toInt - (w (90 + 9 * c + 1)).toInt))
    (hd : (q 165).toInt - (w 165).toInt = a6.toInt - (w (90 + 9 * c + 6)).toInt)
    (hn : 0 ≤ (q 165).toInt ∧ 0 ≤ (q 166).toInt ∧ (q 164).toInt ≤ B') (ht : 0 ≤ (q 163).toInt ∧ (q 163).toInt ≤ B') : JN B' N (s9 q c a0 a1 a2 a3 a4 a5 a6 a7 a8) := by
  obtain ⟨h1, h2, h3, h4, h5, h6, h7, h8, h9, h10⟩ := h
  have ho : ∀ d k, d < N → d ≠ c → k < 9 → s9 q c a0 a1 a2 a3 a4 a5 a6 a7 a8 (90 + 9 * d + k) = w (90 + 9 * d + k) := fun d k hd2 hne hk => by
    rw [s9_d hne hk]; exact hq _ (by omega) (by omega)
  refine ⟨hI, h2, ?_, fun d hd2 => ?_, fun d e hd2 he hne r1 r2 => ?_, ?_, ?_, ?_, ?_, fun m hm2 => ?_⟩
  · rw [s9_o (by omega), hq _ (by omega) (by omega)]; exact h3
  · unfold carW
    by_cases e : d = c
    · subst e
      rw [s9_r0, s9_r1, s9_r2, s9_r3, s9_r4, s9_r6, s9_r7, s9_r8]
      exact carP_mono hP (Int.le_refl _) (fun m hm2 => by rw [s9_o (by omega)]; exact Int.le_refl _)
    · rw [ho d 0 hd2 e (by omega), ho d 1 hd2 e (by omega), ho d 2 hd2 e (by omega), ho d 3 hd2 e (by omega), ho d 4 hd2 e (by omega), ho d 6 hd2 e (by omega), ho d 7 hd2 e (by omega), ho d 8 hd2 e (by omega)]
      exact carP_mono (h4 d hd2) hB (fun m hm2 => by rw [s9_o (by omega)]; exact (hm m hm2).1)
  · by_cases e1 : d = c
    · subst e1
      have e2 : e ≠ d := fun x => hne x.symm
      rw [ho e 0 he e2 (by omega)] at r2
      rw [s9_r0] at r1
      rw [s9_r4, ho e 4 he e2 (by omega)]
      exact hf r1 e he e2 r2
    · by_cases e2 : e = c
      · subst e2
        rw [ho d 0 hd2 e1 (by omega)] at r1
        rw [s9_r0] at r2
        rw [s9_r4, ho d 4 hd2 e1 (by omega)]
        exact (hf r2 d hd2 e1 r1).symm
      · rw [ho d 0 hd2 e1 (by omega)] at r1
        rw [ho e 0 he e2 (by omega)] at r2
        rw [ho d 4 hd2 e1 (by omega), ho e 4 he e2 (by omega)]
        exact h5 d e hd2 he hne r1 r2
  · have := smI_upd (f := oreI w) (g := oreI (s9 q c a0 a1 a2 a3 a4 a5 a6 a7 a8)) (c := c) hc (fun d hd2 hne => by unfold oreI; rw [ho d 1 hd2 hne (by omega)])
    rw [this, s9_o (by omega), s9_o (by omega), s9_o (by omega)]
    unfold oreI
    rw [s9_r1]
    show _ = _ + _ + (smI (oreI w) N + _)
    omega
  · have := smI_upd (f := delI w) (g := delI (s9 q c a0 a1 a2 a3 a4 a5 a6 a7 a8)) (c := c) hc (fun d hd2 hne => by unfold delI; rw [ho d 6 hd2 hne (by omega)])
    rw [this, s9_o (by omega)]
    unfold delI
    rw [s9_r6]
    show _ = smI (delI w) N + _
    omega
  · rw [s9_o (by omega), s9_o (by omega), s9_o (by omega)]; exact hn
  · rw [s9_o (by omega)]; exact ht
  · rw [s9_o (by omega)]
    have := h10 m hm2
    have := hm m hm2
    omega
/-- cells that J doesn't speak of -/
theorem jn_o {B : Int} {N : Nat} {w q : Nat → Int32} (h : JN B N w) (hI : Inv q) (hq : ∀ i, 60 ≤ i → i < 163 → q i = w i) (h4 : q 164 = w 164) (h5 : q 165 = w 165) (h6 : q 166 = w 166) (ht : 0 ≤ (q 163).toInt ∧ (q 163).toInt ≤ B) : JN B N q := by
  obtain ⟨g1, g2, g3, g4, g5, g6, g7, g8, g9, g10⟩ := h
  have ho : ∀ d k, d < N → k < 9 → q (90 + 9 * d + k) = w (90 + 9 * d + k) := fun d k hd hk => hq _ (by omega) (by omega)
  refine ⟨hI, g2, by rw [hq 162 (by omega) (by omega)]; exact g3, fun d hd => ?_, fun d e hd he hne r1 r2 => ?_, ?_, ?_, ?_, ht, fun m hm => ?_⟩
  · unfold carW
    rw [ho d 0 hd (by omega), ho d 1 hd (by omega), ho d 2 hd (by omega), ho d 3 hd (by omega), ho d 4 hd (by omega), ho d 6 hd (by omega), ho d 7 hd (by omega), ho d 8 hd (by omega)]
    exact carP_mono (g4 d hd) (Int.le_refl _) (fun m hm => by rw [hq (60 + m) (by omega) (by omega)]; exact Int.le_refl _)
  · rw [ho d 0 hd (by omega)] at r1
    rw [ho e 0 he (by omega)] at r2
    rw [ho d 4 hd (by omega), ho e 4 he (by omega)]
    exact g5 d e hd he hne r1 r2
  · rw [h4, h5, h6, smI_congr (f := oreI w) (fun d hd => by unfold oreI; rw [ho d 1 hd (by omega)])]; exact g6
  · rw [h5, smI_congr (f := delI w) (fun d hd => by unfold delI; rw [ho d 6 hd (by omega)])]; exact g7
  · rw [h4, h5, h6]; exact g8
  · rw [hq (60 + m) (by omega) (by omega)]; exact g10 m hm
