/-! loops with a counter, by an invariant -/
theorem lp_p {σ α : Type} {L : Nat → σ → Int32 → Option α} {N : Nat} {P : Nat → σ → Prop} {Q : α → Prop}
    (step : ∀ n s j, j < N → P j s → ∃ s', P (j + 1) s' ∧ L (n + 1) s (nI j) = L n s' (nI (j + 1)))
    (fin : ∀ n s, P N s → ∃ a, L (n + 1) s (nI N) = some a ∧ Q a) :
    ∀ d fuel j s, N - j = d → j ≤ N → P j s → N - j < fuel → ∃ a, L fuel s (nI j) = some a ∧ Q a := by
  intro d
  induction d with
  | zero =>
    intro fuel j s hd hj hP hf
    obtain ⟨n, rfl⟩ : ∃ n, fuel = n + 1 := ⟨fuel - 1, by omega⟩
    obtain rfl : j = N := by omega
    exact fin n s hP
  | succ d ih =>
    intro fuel j s hd hj hP hf
    obtain ⟨n, rfl⟩ : ∃ n, fuel = n + 1 := ⟨fuel - 1, by omega⟩
    obtain ⟨s', h1, h2⟩ := step n s j (by omega) hP
    rw [h2]
    exact ih n (j + 1) s' (by omega) (by omega) h1 (by omega)
/-- the same, where the state after j steps is known -/
theorem lp_e {σ α : Type} {L : Nat → σ → Int32 → Option α} {N : Nat} {S : Nat → σ} {r : α}
    (step : ∀ n j, j < N → L (n + 1) (S j) (nI j) = L n (S (j + 1)) (nI (j + 1)))
    (fin : ∀ n, L (n + 1) (S N) (nI N) = some r) (hN : N < fu) : L fu (S 0) 0 = some r := by
  have h := lp_p (L := L) (N := N) (P := fun j s => s = S j) (Q := fun a => a = r)
    (fun n s j hj hs => ⟨S (j + 1), rfl, by rw [hs]; exact step n j hj⟩)
    (fun n s hs => ⟨r, by rw [hs]; exact fin n, rfl⟩) N fu 0 (S 0) rfl (by omega) rfl (by omega)
  obtain ⟨a, h1, h2⟩ := h
  rw [← h2]
  exact h1
theorem fu_eq : fu = 1000 := rfl
/-- the mask of the cars with a property -/
def bitN (n : Nat) : Int32 := 1 <<< (nI n &&& 31)
def mkN (P : Nat → Bool) : Nat → Int32
  | 0 => 0
  | n + 1 => if P n then mkN P n ||| bitN n else mkN P n
theorem mk_t {P : Nat → Bool} {n : Nat} (h : P n = true) : mkN P (n + 1) = mkN P n ||| bitN n := by
  show (if P n then _ else _) = _
  rw [if_pos h]
theorem mk_f {P : Nat → Bool} {n : Nat} (h : P n = false) : mkN P (n + 1) = mkN P n := by
  show (if P n then _ else _) = _
  rw [if_neg (by rw [h]; decide)]
theorem mk_congr {P Q : Nat → Bool} : ∀ {n : Nat}, (∀ c, c < n → P c = Q c) → mkN P n = mkN Q n
  | 0, _ => rfl
  | n + 1, h => by
    have h1 := mk_congr (n := n) (fun c hc => h c (by omega))
    show (if P n then _ else _) = (if Q n then _ else _)
    rw [h1, h n (by omega)]
theorem or_0 (x : Int32) : x ||| 0 = x := by simp
theorem ct_t {P : Nat → Bool} {n : Nat} (h : P n = true) : ctN P (n + 1) = ctN P n + 1 := by
  show ctN P n + (if P n then 1 else 0) = _
  rw [if_pos h]
theorem ct_f {P : Nat → Bool} {n : Nat} (h : P n = false) : ctN P (n + 1) = ctN P n := by
  show ctN P n + (if P n then 1 else 0) = _
  rw [if_neg (by rw [h]; decide)]
  rfl
theorem ct_le {P : Nat → Bool} : ∀ n : Nat, ctN P n ≤ n
  | 0 => Nat.le_refl _
  | n + 1 => by
    have := ct_le (P := P) n
    show ctN P n + (if P n then 1 else 0) ≤ _
    split <;> omega
theorem ct_congr {P Q : Nat → Bool} : ∀ {n : Nat}, (∀ c, c < n → P c = Q c) → ctN P n = ctN Q n
  | 0, _ => rfl
  | n + 1, h => by
    have h1 := ct_congr (n := n) (fun c hc => h c (by omega))
    show ctN P n + (if P n then _ else _) = ctN Q n + (if Q n then _ else _)
    rw [h1, h n (by omega)]
def smN (f : Nat → Int32) : Nat → Int32
  | 0 => 0
  | n + 1 => smN f n + f n
def isSt (w : Nat → Int32) (x : Int32) (c : Nat) : Bool := decide (w (90 + 9 * c + 0) = x)
theorem cis_s {w : Nat → Int32} {N : Nat} {x : Int32} (hN : N ≤ 8) (hw : w 162 = nI N) : f3_carsInState_0 w x = some (mkN (isSt w x) N) := by
  unfold f3_carsInState_0
  refine lp_e (σ := Int32) (L := fun n s j => f3_carsInState_4 w n x s j) (N := N) (S := fun j => mkN (isSt w x) j) ?_ ?_ (by rw [fu_eq]; omega)
  · intro n j hj
    simp (disch := omega) only [f3_carsInState_4, f3_carsInState_31, hw, n_le, gd_n, cl_n, ad_1, if_neg (show ¬ N ≤ j by omega)]
    by_cases h : w (90 + 9 * j + 0) = x
    · rw [if_pos h, mk_t (decide_eq_true h)]; rfl
    · rw [if_neg h, mk_f (decide_eq_false h)]
  · intro n
    simp (disch := omega) only [f3_carsInState_4, hw, if_pos (Int32.le_refl _)]
def inSec (w : Nat → Int32) (x s : Int32) (c : Nat) : Bool := decide (w (90 + 9 * c + 0) = x ∧ w (90 + 9 * c + 4) / 10 = s)
theorem cic_s {w : Nat → Int32} {N : Nat} {x s : Int32} (hN : N ≤ 8) (hw : w 162 = nI N) : f3_carsInSection_0 w s x = some (mkN (inSec w x s) N) := by
  unfold f3_carsInSection_0
  refine lp_e (σ := Int32) (L := fun n a j => f3_carsInSection_5 w n s x a j) (N := N) (S := fun j => mkN (inSec w x s) j) ?_ ?_ (by rw [fu_eq]; omega)
  · intro n j hj
    simp (disch := omega) only [f3_carsInSection_5, f3_carsInSection_52, hw, n_le, gd_n, cl_n, ad_1, if_neg (show ¬ N ≤ j by omega)]
    by_cases h : w (90 + 9 * j + 0) = x
    · by_cases h2 : w (90 + 9 * j + 4) / 10 = s
      · rw [if_pos h, if_pos h2, mk_t (decide_eq_true ⟨h, h2⟩)]; rfl
      · rw [if_pos h, if_neg h2, mk_f (decide_eq_false (fun q => h2 q.2))]
    · rw [if_neg h, mk_f (decide_eq_false (fun q => h q.1))]
  · intro n
    simp (disch := omega) only [f3_carsInSection_5, hw, if_pos (Int32.le_refl _)]
theorem isIn_o {w : Nat → Int32} {c : Nat} {x : Int32} (hc : c < 8) : f5_isIn_0 w (nI c) x = some (b01 (w (90 + 9 * c + 0) = x)) := isIn_s hc
theorem cat_s {w : Nat → Int32} {N : Nat} {x s : Int32} (hN : N ≤ 8) (hw : w 162 = nI N) : f5_carsAt_0 w x s = some (mkN (if s < 0 then isSt w x else inSec w x s) N) := by
  unfold f5_carsAt_0
  refine lp_e (σ := Int32) (L := fun n a j => f5_carsAt_5 w n x s a j) (N := N) (S := fun j => mkN (if s < 0 then isSt w x else inSec w x s) j) ?_ ?_ (by rw [fu_eq]; omega)
  · intro n j hj
    simp (disch := omega) only [f5_carsAt_5, f5_carsAt_50, f5_carsAt_54, f5_carsAt_55, f5_carsAt_71, hw, gdm162, cl162, n_le, gd_n, cl_n, ad_1, isIn_o, ob, b01_0, e5_4, if_neg (show ¬ N ≤ j by omega)]
    by_cases h : w (90 + 9 * j + 0) = x
    · rw [if_neg (fun q => q h)]
      by_cases h1 : s < 0
      · rw [if_pos h1, if_neg (by decide), if_pos h1, mk_t (decide_eq_true h)]; rfl
      · rw [if_neg h1, if_neg h1]
        by_cases h2 : w (90 + 9 * j + 4) / 10 = s
        · rw [if_pos h2, if_neg (by decide), mk_t (decide_eq_true ⟨h, h2⟩)]; rfl
        · rw [if_neg h2, if_pos trivial, or_0, mk_f (decide_eq_false (fun q => h2 q.2))]
    · rw [if_pos h, if_pos trivial, or_0]
      by_cases h1 : s < 0
      · rw [if_pos h1, mk_f (decide_eq_false h)]
      · rw [if_neg h1, mk_f (decide_eq_false (fun q => h q.1))]
  · intro n
    simp (disch := omega) only [f5_carsAt_5, hw, gdm162, cl162, if_pos (Int32.le_refl _)]
theorem bit_and : ∀ a b : Fin 8, a ≠ b → bitN a.val &&& bitN b.val = 0 := by decide
theorem bit_ne : ∀ a : Fin 8, bitN a.val ≠ 0 := by decide
theorem and_or_r (x y z : Int32) : (x ||| y) &&& z = x &&& z ||| y &&& z := by
  apply Int32.toBitVec_inj.mp
  simp only [Int32.toBitVec_or, Int32.toBitVec_and]
  apply BitVec.eq_of_getLsbD_eq
  intro i hi
  simp only [BitVec.getLsbD_and, BitVec.getLsbD_or]
  exact Bool.and_or_distrib_right _ _ _
theorem or_and_self' (x y : Int32) : (x ||| y) &&& y = y := by
  apply Int32.toBitVec_inj.mp
  simp only [Int32.toBitVec_or, Int32.toBitVec_and]
  apply BitVec.eq_of_getLsbD_eq
  intro i hi
  simp only [BitVec.getLsbD_and, BitVec.getLsbD_or]
  cases BitVec.getLsbD x.toBitVec i <;> cases BitVec.getLsbD y.toBitVec i <;> rfl
theorem mk_bit {P : Nat → Bool} {c : Nat} (hc : c < 8) : ∀ {N : Nat}, N ≤ 8 → (mkN P N &&& bitN c = 0 ↔ ¬ (c < N ∧ P c = true))
  | 0, _ => by
    have : mkN P 0 &&& bitN c = 0 := by show (0 : Int32) &&& bitN c = 0; simp
    exact ⟨fun _ h => by omega, fun _ => this⟩
  | N + 1, hN => by
    have ih := mk_bit (P := P) hc (N := N) (by omega)
    by_cases h : P N = true
    · rw [mk_t h]
      by_cases e : c = N
      · subst e
        rw [or_and_self']
        exact ⟨fun q => absurd q (bit_ne ⟨c, hc⟩), fun q => absurd ⟨by omega, h⟩ q⟩
      · rw [and_or_r, bit_and ⟨N, by omega⟩ ⟨c, hc⟩ (fun q => e (by simpa using (congrArg Fin.val q).symm)), or_0, ih]
        exact ⟨fun q r => q ⟨by omega, r.2⟩, fun q r => q ⟨by omega, r.2⟩⟩
    · have h' : P N = false := by simpa using h
      rw [mk_f h', ih]
      exact ⟨fun q r => by
        by_cases e : c = N
        · subst e; rw [h'] at r; exact absurd r.2 (by decide)
        · exact q ⟨by omega, r.2⟩, fun q r => q ⟨by omega, r.2⟩⟩
theorem mk_0 {P : Nat → Bool} {N : Nat} (hN : N ≤ 8) : mkN P N = 0 ↔ ∀ c, c < N → P c = false := by
  constructor
  · intro h c hc
    have := (mk_bit (P := P) (c := c) (by omega) hN).mp (by rw [h]; simp)
    cases hp : P c
    · rfl
    · exact absurd ⟨hc, hp⟩ this
  · intro h
    induction N with
    | zero => rfl
    | succ n ih => rw [mk_f (h n (by omega))]; exact ih (by omega) (fun c hc => h c (by omega))
