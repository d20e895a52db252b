/-! evaluation of the read-off functions: indices, guards -/
theorem gd_n {α : Type} {n N : Nat} {x : Option α} (h : n < N) (hN : N < 2 ^ 31) : gd (nI n) N x = x := gd_i (vp_in_nI h hN)
theorem gdm162 {α : Type} {x : Option α} : gd 162 171 x = x := gd_n (n := 162) (by omega) (by omega)
theorem gdm163 {α : Type} {x : Option α} : gd 163 171 x = x := gd_n (n := 163) (by omega) (by omega)
theorem gdm164 {α : Type} {x : Option α} : gd 164 171 x = x := gd_n (n := 164) (by omega) (by omega)
theorem gdm165 {α : Type} {x : Option α} : gd 165 171 x = x := gd_n (n := 165) (by omega) (by omega)
theorem gdm166 {α : Type} {x : Option α} : gd 166 171 x = x := gd_n (n := 166) (by omega) (by omega)
theorem gdm167 {α : Type} {x : Option α} : gd 167 171 x = x := gd_n (n := 167) (by omega) (by omega)
theorem gdm168 {α : Type} {x : Option α} : gd 168 171 x = x := gd_n (n := 168) (by omega) (by omega)
theorem gdm169 {α : Type} {x : Option α} : gd 169 171 x = x := gd_n (n := 169) (by omega) (by omega)
theorem gdm170 {α : Type} {x : Option α} : gd 170 171 x = x := gd_n (n := 170) (by omega) (by omega)
theorem gds0 {α : Type} {x : Option α} : gd 0 3 x = x := gd_n (n := 0) (by omega) (by omega)
theorem gds1 {α : Type} {x : Option α} : gd 1 3 x = x := gd_n (n := 1) (by omega) (by omega)
theorem gds2 {α : Type} {x : Option α} : gd 2 3 x = x := gd_n (n := 2) (by omega) (by omega)
theorem gdc0 {α : Type} {x : Option α} : gd 0 8 x = x := gd_n (n := 0) (by omega) (by omega)
theorem cl_n {n : Nat} (h : n < 2 ^ 31) : Int32.toNatClampNeg (nI n) = n := nI_clamp h
theorem cl0 : Int32.toNatClampNeg 0 = 0 := cl_n (n := 0) (by omega)
theorem cl1 : Int32.toNatClampNeg 1 = 1 := cl_n (n := 1) (by omega)
theorem cl2 : Int32.toNatClampNeg 2 = 2 := cl_n (n := 2) (by omega)
theorem cl162 : Int32.toNatClampNeg 162 = 162 := rfl
theorem cl163 : Int32.toNatClampNeg 163 = 163 := rfl
theorem cl164 : Int32.toNatClampNeg 164 = 164 := rfl
theorem cl165 : Int32.toNatClampNeg 165 = 165 := rfl
theorem cl166 : Int32.toNatClampNeg 166 = 166 := rfl
theorem cl167 : Int32.toNatClampNeg 167 = 167 := rfl
theorem cl168 : Int32.toNatClampNeg 168 = 168 := rfl
theorem cl169 : Int32.toNatClampNeg 169 = 169 := rfl
theorem cl170 : Int32.toNatClampNeg 170 = 170 := rfl
theorem e5_n (c k : Nat) : e5_of (nI c) (nI k) = nI (90 + 9 * c + k) := by
  unfold e5_of
  rw [show (90 : Int32) = nI 90 from rfl, show (9 : Int32) = nI 9 from rfl, pk_mul, nI_add, nI_add]
theorem e5_0 (c : Nat) : e5_of (nI c) 0 = nI (90 + 9 * c + 0) := e5_n c 0
theorem e5_1 (c : Nat) : e5_of (nI c) 1 = nI (90 + 9 * c + 1) := e5_n c 1
theorem e5_2 (c : Nat) : e5_of (nI c) 2 = nI (90 + 9 * c + 2) := e5_n c 2
theorem e5_3 (c : Nat) : e5_of (nI c) 3 = nI (90 + 9 * c + 3) := e5_n c 3
theorem e5_4 (c : Nat) : e5_of (nI c) 4 = nI (90 + 9 * c + 4) := e5_n c 4
theorem e5_5 (c : Nat) : e5_of (nI c) 5 = nI (90 + 9 * c + 5) := e5_n c 5
theorem e5_6 (c : Nat) : e5_of (nI c) 6 = nI (90 + 9 * c + 6) := e5_n c 6
theorem e5_7 (c : Nat) : e5_of (nI c) 7 = nI (90 + 9 * c + 7) := e5_n c 7
theorem e5_8 (c : Nat) : e5_of (nI c) 8 = nI (90 + 9 * c + 8) := e5_n c 8
theorem ad_n (a b : Nat) : nI a + nI b = nI (a + b) := nI_add a b
theorem ad_1 (a : Nat) : nI a + 1 = nI (a + 1) := nI_add a 1
theorem ar_0 (a : Nat) : 0 + nI a = nI (0 + a) := nI_add 0 a
theorem ar_30 (a : Nat) : 30 + nI a = nI (30 + a) := nI_add 30 a
theorem ar_60 (a : Nat) : 60 + nI a = nI (60 + a) := nI_add 60 a
theorem ar_168 (a : Nat) : 168 + nI a = nI (168 + a) := nI_add 168 a
theorem ar_171 (a : Nat) : 171 + nI a = nI (171 + a) := nI_add 171 a
theorem mr_10 (a : Nat) : 10 * nI a = nI (10 * a) := pk_mul 10 a
theorem mr_171 (a : Nat) : 171 * nI a = nI (171 * a) := pk_mul 171 a
theorem gz_0 {α : Type} {x : Option α} : gz 0 x = x := gz_i (Or.inl rfl)
theorem gz_1 {α : Type} {x : Option α} : gz 1 x = x := gz_i (Or.inr rfl)
def b01 (p : Prop) [Decidable p] : Int32 := if p then 1 else 0
theorem b01_t {p : Prop} [Decidable p] (h : p) : b01 p = 1 := if_pos h
theorem b01_f {p : Prop} [Decidable p] (h : ¬ p) : b01 p = 0 := if_neg h
theorem b01_0 {p : Prop} [Decidable p] : b01 p = 0 ↔ ¬ p := by
  by_cases h : p
  · rw [b01_t h]; exact ⟨fun q => absurd q (by decide), fun q => absurd h q⟩
  · rw [b01_f h]; exact ⟨fun _ => h, fun _ => rfl⟩
theorem gz_b {α : Type} {p : Prop} [Decidable p] {x : Option α} : gz (b01 p) x = x := by
  by_cases h : p
  · rw [b01_t h, gz_1]
  · rw [b01_f h, gz_0]
theorem ob {α β : Type} (a : α) (f : α → Option β) : Option.bind (some a) f = f a := rfl
/-- the whole numbers up to M -/
def sml (x : Int32) (M : Nat) : Prop := ∃ k, k ≤ M ∧ x = nI k
theorem sml_i {x : Int32} {M : Nat} (h : sml x M) (hM : M < 2 ^ 31) : 0 ≤ x.toInt ∧ x.toInt ≤ M := by
  obtain ⟨k, hk, rfl⟩ := h
  rw [nI_toInt (by omega)]
  omega
theorem sml_of {x : Int32} {M : Nat} (h0 : 0 ≤ x.toInt) (h : x.toInt ≤ M) (hM : M < 2 ^ 31) : sml x M := by
  refine ⟨x.toInt.toNat, by omega, ?_⟩
  apply Int32.toInt_inj.mp
  rw [nI_toInt (by omega)]
  omega
theorem i_lt {a b : Int32} : a < b ↔ a.toInt < b.toInt := Int32.lt_iff_toInt_lt
theorem i_le {a b : Int32} : a ≤ b ↔ a.toInt ≤ b.toInt := Int32.le_iff_toInt_le
theorem i_eq {a b : Int32} : a = b ↔ a.toInt = b.toInt := Int32.toInt_inj.symm
theorem i_add {a b : Int32} (h : -2147483648 ≤ a.toInt + b.toInt) (h2 : a.toInt + b.toInt < 2147483648) : (a + b).toInt = a.toInt + b.toInt := by
  rw [Int32.toInt_add]
  exact Int.bmod_eq_of_le (by omega) (by omega)
theorem i_sub {a b : Int32} (h : -2147483648 ≤ a.toInt - b.toInt) (h2 : a.toInt - b.toInt < 2147483648) : (a - b).toInt = a.toInt - b.toInt := by
  rw [Int32.toInt_sub]
  exact Int.bmod_eq_of_le (by omega) (by omega)
theorem n_lt {a b : Nat} (ha : a < 2 ^ 31) (hb : b < 2 ^ 31) : nI a < nI b ↔ a < b := nI_ltI ha hb
theorem n_le {a b : Nat} (ha : a < 2 ^ 31) (hb : b < 2 ^ 31) : nI a ≤ nI b ↔ a ≤ b := nI_leI ha hb
theorem n_eq {a b : Nat} (ha : a < 2 ^ 31) (hb : b < 2 ^ 31) : nI a = nI b ↔ a = b := nI_eq ha hb
theorem in_s {v lo hi : Int32} : f5_in_0 v lo hi = some (b01 (lo ≤ v ∧ v ≤ hi)) := by
  unfold f5_in_0 f5_in_14 f5_in_15
  by_cases h1 : v < lo
  · rw [if_pos h1, gz_0, b01_f (fun h => by rw [i_lt] at h1; have := i_le.mp h.1; omega)]
  · rw [if_neg h1]
    by_cases h2 : hi < v
    · rw [if_pos h2, gz_0, b01_f (fun h => by rw [i_lt] at h2; have := i_le.mp h.2; omega)]
    · rw [if_neg h2, gz_1, b01_t ⟨by rw [i_lt] at h1; rw [i_le]; omega, by rw [i_lt] at h2; rw [i_le]; omega⟩]
theorem upd_s {f : Nat → Int32} {k : Nat} {x : Int32} : upd f k x k = x := pk_us
theorem upd_n {f : Nat → Int32} {k j : Nat} {x : Int32} (h : j ≠ k) : upd f k x j = f j := pk_un h
theorem upd_same {f : Nat → Int32} {k : Nat} : upd f k (f k) = f := by
  funext j
  by_cases h : j = k
  · subst h; rw [upd_s]
  · rw [upd_n h]
theorem isIn_s {w : Nat → Int32} {c : Nat} {x : Int32} (hc : c < 8) : f5_isIn_0 w (nI c) x = some (b01 (w (90 + 9 * c) = x)) := by
  unfold f5_isIn_0 f5_isIn_19
  simp (disch := omega) only [e5_0, gd_n, cl_n, gz_0, gz_1, Nat.add_zero]
  by_cases h : w (90 + 9 * c) = x
  · rw [if_pos h, b01_t h]
  · rw [if_neg h, b01_f h]
/-- the invariant of a state's row: how many cars, each car's numbers, settings, grades, limits, switches -/
def carI (w : Nat → Int32) (c : Nat) : Prop := sml (w (90 + 9 * c + 0)) 4 ∧ sml (w (90 + 9 * c + 1)) 20 ∧ sml (w (90 + 9 * c + 2)) 9 ∧ sml (w (90 + 9 * c + 3)) 40 ∧ sml (w (90 + 9 * c + 4)) 300 ∧ sml (w (90 + 9 * c + 5)) 200 ∧ (w (90 + 9 * c + 0) = 1 ∨ w (90 + 9 * c + 0) = 0 → sml (w (90 + 9 * c + 4)) 299)
def ctN (P : Nat → Bool) : Nat → Nat
  | 0 => 0
  | n + 1 => ctN P n + (if P n then 1 else 0)
def Inv (w : Nat → Int32) : Prop := sml (w 162) 8 ∧ (∀ c, c < 8 → carI w c) ∧ (sml (w 168) 5 ∧ sml (w 169) 20 ∧ sml (w 170) 4) ∧ (∀ i, i < 30 → sml (w i) 9) ∧ (∀ i, i < 30 → sml (w (30 + i)) 40) ∧ ctN (fun i => decide (0 < w (30 + i))) 30 ≤ 4 ∧ (∀ i, 171 ≤ i → w i = 0)
theorem isCar_s {w : Nat → Int32} {N : Nat} {c : Int32} (hN : N ≤ 8) (hw : w 162 = nI N) : f5_isCar_0 w c = some (b01 (0 ≤ c ∧ c < nI N)) := by
  unfold f5_isCar_0
  simp (disch := omega) only [gdm162, cl162, in_s, ob, gz_b]
  rw [hw]
  have h1 : (nI N - 1).toInt = (N : Int) - 1 := by
    rw [i_sub] <;> rw [nI_toInt (by omega)] <;> rw [show (1 : Int32).toInt = 1 from rfl] <;> omega
  have h2 : (nI N).toInt = N := nI_toInt (by omega)
  congr 1
  by_cases h : 0 ≤ c ∧ c < nI N
  · rw [b01_t h, b01_t ⟨h.1, by have := i_lt.mp h.2; rw [i_le]; omega⟩]
  · rw [b01_f h, b01_f (fun q => h ⟨q.1, by have := i_le.mp q.2; rw [i_lt]; omega⟩)]
theorem hasCar_s {w : Nat → Int32} {N : Nat} {c : Int32} (hN : N ≤ 8) (hw : w 162 = nI N) : f3_hasCar_0 w c = some (b01 (0 ≤ c ∧ c < nI N)) := by
  have h2 : (nI N).toInt = N := nI_toInt (by omega)
  unfold f3_hasCar_0 f3_hasCar_25 f3_hasCar_26
  rw [hw, gz_0, gz_1]
  by_cases h1 : c < 0
  · rw [if_pos h1, b01_f (fun q => by have := i_le.mp q.1; have := i_lt.mp h1; omega)]
  · rw [if_neg h1]
    by_cases h3 : nI N ≤ c
    · rw [if_pos h3, b01_f (fun q => by have := i_lt.mp q.2; have := i_le.mp h3; omega)]
    · rw [if_neg h3, if_neg (fun q => by have := i_lt.mp q; rw [h2, show (8 : Int32).toInt = 8 from rfl] at this; omega), b01_t ⟨by rw [i_lt] at h1; rw [i_le]; omega, by rw [i_le] at h3; rw [i_lt]; omega⟩]
