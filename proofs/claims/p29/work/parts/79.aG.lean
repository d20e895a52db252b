/-! p29: masks and sums -/
theorem mk_ors (a b c : Int32) : (a ||| b) ||| (c ||| b) = (a ||| c) ||| b ∧ (a ||| b) ||| c = (a ||| c) ||| b ∧ a ||| (c ||| b) = (a ||| c) ||| b := by
  refine ⟨?_, ?_, ?_⟩ <;>
  · apply Int32.toBitVec_inj.mp
    simp only [Int32.toBitVec_or]
    apply BitVec.eq_of_getLsbD_eq
    intro i hi
    simp only [BitVec.getLsbD_or]
    cases BitVec.getLsbD a.toBitVec i <;> cases BitVec.getLsbD b.toBitVec i <;> cases BitVec.getLsbD c.toBitVec i <;> rfl
theorem mk_or {P Q : Nat → Bool} : ∀ {N : Nat}, mkN P N ||| mkN Q N = mkN (fun c => P c || Q c) N
  | 0 => or_0 0
  | n + 1 => by
    have ih := mk_or (P := P) (Q := Q) (N := n)
    obtain ⟨o1, o2, o3⟩ := mk_ors (mkN P n) (bitN n) (mkN Q n)
    cases hp : P n <;> cases hq : Q n
    · rw [mk_f hp, mk_f hq, mk_f (by simp [hp, hq]), ih]
    · rw [mk_f hp, mk_t hq, mk_t (by simp [hp, hq]), o3, ih]
    · rw [mk_t hp, mk_f hq, mk_t (by simp [hp, hq]), o2, ih]
    · rw [mk_t hp, mk_t hq, mk_t (by simp [hp, hq]), o1, ih]
theorem and_or_l (x y z : Int32) : x &&& (y ||| z) = x &&& y ||| x &&& z := by
  apply Int32.toBitVec_inj.mp
  simp only [Int32.toBitVec_or, Int32.toBitVec_and]
  apply BitVec.eq_of_getLsbD_eq
  intro i hi
  simp only [BitVec.getLsbD_and, BitVec.getLsbD_or]
  exact Bool.and_or_distrib_left _ _ _
theorem mk_dis {P Q : Nat → Bool} {M : Nat} (hM : M ≤ 8) : ∀ {N : Nat}, N ≤ M → (∀ c, c < N → ¬ (P c = true ∧ Q c = true)) → mkN P M &&& mkN Q N = 0
  | 0, _, _ => by show mkN P M &&& 0 = 0; simp
  | n + 1, hN, h => by
    have ih := mk_dis (P := P) (Q := Q) hM (N := n) (by omega) (fun c hc => h c (by omega))
    cases hq : Q n
    · rw [mk_f hq]; exact ih
    · rw [mk_t hq, and_or_l, ih, (mk_bit (P := P) (c := n) (by omega) hM).mpr (fun q => h n (by omega) ⟨q.2, hq⟩), or_0]
theorem mk8_bit : ∀ b0 b1 b2 b3 b4 b5 b6 b7 : Bool, ∀ c : Fin 8, b8 b0 b1 b2 b3 b4 b5 b6 b7 c.val = true → mkN (b8 b0 b1 b2 b3 b4 b5 b6 b7) 8 &&& bitN c.val = bitN c.val ∧ (mkN (b8 b0 b1 b2 b3 b4 b5 b6 b7) 8 >>> (nI c.val &&& 31)) &&& 1 = 1 := by decide +kernel
theorem mk8_nn : ∀ b0 b1 b2 b3 b4 b5 b6 b7 : Bool, 0 ≤ (mkN (b8 b0 b1 b2 b3 b4 b5 b6 b7) 8).toInt := by decide +kernel
theorem mk_8 {P : Nat → Bool} {N : Nat} (hN : N ≤ 8) : ∃ b0 b1 b2 b3 b4 b5 b6 b7 : Bool, mkN P N = mkN (b8 b0 b1 b2 b3 b4 b5 b6 b7) 8 ∧ ∀ c, c < 8 → b8 b0 b1 b2 b3 b4 b5 b6 b7 c = (P c && decide (c < N)) := by
  obtain ⟨Q, hQ⟩ : ∃ Q : Nat → Bool, Q = fun c => P c && decide (c < N) := ⟨_, rfl⟩
  refine ⟨Q 0, Q 1, Q 2, Q 3, Q 4, Q 5, Q 6, Q 7, ?_, fun c hc => ?_⟩
  · rw [← mk_ext (P := P) hN, ← hQ]
    exact mk_congr (fun c hc => b8_of hc)
  · rw [← b8_of hc, hQ]
theorem mk_in {P : Nat → Bool} {N c : Nat} (hN : N ≤ 8) (hc : c < N) (hp : P c = true) : mkN P N &&& bitN c = bitN c ∧ (mkN P N >>> (nI c &&& 31)) &&& 1 = 1 := by
  obtain ⟨b0, b1, b2, b3, b4, b5, b6, b7, e, hb⟩ := mk_8 (P := P) hN
  rw [e]
  exact mk8_bit b0 b1 b2 b3 b4 b5 b6 b7 ⟨c, by omega⟩ (by rw [hb c (by omega), hp]; simp [hc])
theorem mk_nn {P : Nat → Bool} {N : Nat} (hN : N ≤ 8) : ¬ mkN P N < 0 := by
  obtain ⟨b0, b1, b2, b3, b4, b5, b6, b7, e, hb⟩ := mk_8 (P := P) hN
  have := mk8_nn b0 b1 b2 b3 b4 b5 b6 b7
  rw [e, i_lt, show (0 : Int32).toInt = 0 from rfl]
  omega
theorem mk_sub {P Q : Nat → Bool} {M : Nat} (hM : M ≤ 8) : ∀ {N : Nat}, N ≤ M → (∀ c, c < N → Q c = true → P c = true) → mkN P M &&& mkN Q N = mkN Q N
  | 0, _, _ => by show mkN P M &&& 0 = 0; simp
  | n + 1, hN, h => by
    have ih := mk_sub (P := P) (Q := Q) hM (N := n) (by omega) (fun c hc => h c (by omega))
    cases hq : Q n
    · rw [mk_f hq]; exact ih
    · rw [mk_t hq, and_or_l, ih, (mk_in hM (show n < M by omega) (h n (by omega) hq)).1]
theorem and_not (x b : Int32) (h : x &&& b = b) : b &&& (x ^^^ -1) = 0 := by
  rw [← h]
  apply Int32.toBitVec_inj.mp
  simp only [Int32.toBitVec_and, Int32.toBitVec_xor]
  apply BitVec.eq_of_getLsbD_eq
  intro i hi
  simp only [BitVec.getLsbD_and, BitVec.getLsbD_xor]
  have e1 : (Int32.toBitVec (-1)).getLsbD i = true := by
    have : Int32.toBitVec (-1) = BitVec.allOnes 32 := by decide
    rw [this, BitVec.getLsbD_allOnes]
    exact decide_eq_true hi
  have e0 : (Int32.toBitVec 0).getLsbD i = false := by
    have : Int32.toBitVec 0 = 0#32 := by decide
    rw [this]
    simp
  rw [e1, e0]
  cases BitVec.getLsbD x.toBitVec i <;> cases BitVec.getLsbD b.toBitVec i <;> rfl
theorem mk_not {P Q : Nat → Bool} {M : Nat} (hM : M ≤ 8) : ∀ {N : Nat}, N ≤ M → (∀ c, c < N → Q c = true → P c = true) → mkN Q N &&& (mkN P M ^^^ -1) = 0
  | 0, _, _ => by show 0 &&& _ = (0 : Int32); simp
  | n + 1, hN, h => by
    have ih := mk_not (P := P) (Q := Q) hM (N := n) (by omega) (fun c hc => h c (by omega))
    cases hq : Q n
    · rw [mk_f hq]; exact ih
    · rw [mk_t hq, and_or_r, ih, and_not _ _ (mk_in hM (show n < M by omega) (h n (by omega) hq)).1, or_0]
theorem mk_one {c : Nat} : ∀ {N : Nat}, mkN (fun d => decide (d = c)) N = if c < N then bitN c else 0
  | 0 => by rw [if_neg (by omega)]; rfl
  | n + 1 => by
    have ih := mk_one (c := c) (N := n)
    by_cases e : n = c
    · subst e
      rw [mk_t (decide_eq_true rfl), ih, if_neg (by omega), if_pos (by omega)]
      show 0 ||| _ = _
      simp
    · rw [mk_f (decide_eq_false e), ih]
      by_cases h : c < n
      · rw [if_pos h, if_pos (by omega)]
      · rw [if_neg h, if_neg (by omega)]
theorem mk_add {P : Nat → Bool} {N c : Nat} (hc : c < N) : mkN P N ||| bitN c = mkN (fun d => P d || decide (d = c)) N := by
  rw [← mk_or, mk_one, if_pos hc]
theorem mk_all : ∀ N : Fin 9, mkN (fun _ => true) N.val = ((1 : Int32) <<< (nI N.val &&& 31)) - 1 := by decide
theorem mk_full {P : Nat → Bool} {N : Nat} (hN : N ≤ 8) (h : ∀ c, c < N → P c = true) : mkN P N = ((1 : Int32) <<< (nI N &&& 31)) - 1 := by
  rw [mk_congr (Q := fun _ => true) h]
  exact mk_all ⟨N, by omega⟩
theorem smI_pm {f : Nat → Int} {N : Nat} (h : ∀ c, c < N → 0 ≤ f c) : ∀ n, n ≤ N → smI f n ≤ smI f N := by
  induction N with
  | zero => intro n hn; obtain rfl : n = 0 := (by omega); exact Int.le_refl _
  | succ N ih =>
    intro n hn
    by_cases e : n = N + 1
    · subst e; exact Int.le_refl _
    · have h1 := ih (fun c hc => h c (by omega)) n (by omega)
      have h2 := h N (by omega)
      show smI f n ≤ smI f N + f N
      omega
theorem smN_I {f : Nat → Int32} {N : Nat} (h0 : ∀ c, c < N → 0 ≤ (f c).toInt) (hM : smI (fun c => (f c).toInt) N < 2147483648) : ∀ n, n ≤ N → (smN f n).toInt = smI (fun c => (f c).toInt) n := by
  intro n
  induction n with
  | zero => intro _; rfl
  | succ n ih =>
    intro hn
    have e := ih (by omega)
    have h1 := smI_pm (f := fun c => (f c).toInt) h0 (n + 1) hn
    have h2 : 0 ≤ smI (fun c => (f c).toInt) n := smI_nn (fun d hd => h0 d (by omega))
    have h3 := h0 n (by omega)
    have e1 : smI (fun c => (f c).toInt) (n + 1) = smI (fun c => (f c).toInt) n + (f n).toInt := rfl
    show (smN f n + f n).toInt = _
    rw [i_add] <;> rw [e] <;> omega
