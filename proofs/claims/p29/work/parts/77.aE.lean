/-! p29: acts: one answer and one effect, whatever the buffer holds -/
theorem go_c {f g : (Nat → Nat → Int32) → Option (Int32 × (Nat → Nat → Int32))} {B : Int} {S : Stt} (h : ∀ mu, AS mu S → f mu = g mu) (hg : GO g B S) : GO f B S := by
  obtain ⟨r, S', j, k⟩ := hg
  exact ⟨r, S', j, fun mu hA => by rw [h mu hA]; exact k mu hA⟩
theorem go_m {f : (Nat → Nat → Int32) → Option (Int32 × (Nat → Nat → Int32))} {B B' : Int} {S : Stt} (hg : GO f B S) (hB : B ≤ B') : GO f B' S := by
  obtain ⟨r, S', j, k⟩ := hg
  exact ⟨r, S', js_mono j hB, k⟩
theorem go_b {f : (Nat → Nat → Int32) → Option (Int32 × (Nat → Nat → Int32))} {B B' : Int} {S : Stt} (hg : GO f B S) (hB : B ≤ B') : GO (fun mu => Option.bind (f mu) (fun t => some (t.1, t.2))) B' S := by
  obtain ⟨r, S', j, k⟩ := hg
  refine ⟨r, S', js_mono j hB, fun mu hA => ?_⟩
  obtain ⟨mu', k1, k2⟩ := k mu hA
  exact ⟨mu', by show Option.bind (f mu) _ = _; rw [k1, ob], k2⟩
def cq (ch : Nat → Nat) (p k : Nat) : Nat → Nat := fun i => if i = p then k else ch i
theorem cq_s {ch : Nat → Nat} {p k : Nat} : cq ch p k p = k := if_pos rfl
theorem cq_n {ch : Nat → Nat} {p k i : Nat} (h : i ≠ p) : cq ch p k i = ch i := if_neg h
theorem ap_c {mu : Nat → Nat → Int32} {S : Stt} {ch : Nat → Nat} {L k : Nat} (h : AS mu S) (hT : TX mu ch L) (hL : L < 60) (h1 : 33 ≤ k) (h2 : k ≤ 126) : ∃ mu', f6_append_0 (nI k) mu = some (nI (L + 1), mu') ∧ AS mu' S ∧ TX mu' (cq ch L k) (L + 1) := ap_s h hT hL h1 h2
theorem two_le {a : Nat} (ha : a < 2 ^ 31) : (2 : Int32) ≤ nI a ↔ 2 ≤ a := n_le (a := 2) (by omega) ha
/-- an order is written behind p signs -/
theorem od_A {S : Stt} {ch : Nat → Nat} {p Z j : Nat} {x2 : Int32} (hp : p + 4 ≤ 60) (hZ : Z < 2 ^ 31) : ∃ ch' q, OK1 ch' p q ∧ q ≤ p + 4 ∧ (∀ i, i < p → ch' i = ch i) ∧ ∀ K mu x, AS mu S → TX mu ch p → ∃ mu', f6_acts_314 K x2 (nI j) (nI Z) x mu = K x2 (nI q) (nI (j + 1)) mu' ∧ AS mu' S ∧ TX mu' ch' q := by
  have hk : rmI (nI Z) 4 = nI (Z % 4) := rm_n (b := 4) hZ (by omega) (by omega)
  have h4 : (nI Z) / 4 = nI (Z / 4) := dv_n (b := 4) hZ (by omega) (by omega)
  have h16 : (nI Z) / 16 = nI (Z / 16) := dv_n (b := 16) hZ (by omega) (by omega)
  have h44 : rmI (nI (Z / 4)) 4 = nI (Z / 4 % 4) := rm_n (b := 4) (by omega) (by omega) (by omega)
  have h49 : rmI (nI (Z / 4)) 9 = nI (Z / 4 % 9) := rm_n (b := 9) (by omega) (by omega) (by omega)
  have h169 : rmI (nI (Z / 16)) 9 = nI (Z / 16 % 9) := rm_n (b := 9) (by omega) (by omega) (by omega)
  have a48 : ∀ a, 48 + nI a = nI (48 + a) := fun a => nI_add 48 a
  have a49 : ∀ a, 49 + nI a = nI (49 + a) := fun a => nI_add 49 a
  have hm : Z % 4 = 0 ∨ Z % 4 = 1 ∨ Z % 4 = 2 ∨ Z % 4 = 3 := by omega
  have d4 : Z / 4 % 4 < 4 := Nat.mod_lt _ (by omega)
  have d9 : Z / 4 % 9 < 9 := Nat.mod_lt _ (by omega)
  have d169 : Z / 16 % 9 < 9 := Nat.mod_lt _ (by omega)
  rcases hm with hm | hm | hm | hm
  · refine ⟨cq (cq (cq (cq ch p 108) (p + 1) (48 + Z / 4 % 4)) (p + 2) 43) (p + 3) (49 + Z / 16 % 9), p + 4, Or.inl ⟨Or.inl ⟨?_, ?_⟩, rfl, ?_, ?_⟩, by omega, fun i hi => ?_, fun K mu x hA hT => ?_⟩
    · rw [cq_n (by omega), cq_n (by omega), cq_n (by omega), cq_s]
    · rw [cq_n (by omega), cq_s]
    · rw [cq_n (by omega), cq_n (by omega), cq_s]; omega
    · rw [cq_s]; omega
    · rw [cq_n (by omega), cq_n (by omega), cq_n (by omega), cq_n (by omega)]
    · obtain ⟨m1, e1, A1, T1⟩ := ap_c (k := 108) hA hT (by omega) (by omega) (by omega)
      obtain ⟨m2, e2, A2, T2⟩ := ap_c (k := 48 + Z / 4 % 4) A1 T1 (by omega) (by omega) (by omega)
      obtain ⟨m3, e3, A3, T3⟩ := ap_c (k := 43) A2 T2 (by omega) (by omega) (by omega)
      obtain ⟨m4, e4, A4, T4⟩ := ap_c (k := 49 + Z / 16 % 9) A3 T3 (by omega) (by omega) (by omega)
      refine ⟨m4, ?_, A4, T4⟩
      unfold f6_acts_314 f6_acts_357 f6_acts_393 f6_acts_421 f6_acts_429 f6_acts_459
      rw [hk, hm]
      rw [if_pos (show nI 0 = 0 from rfl)]
      rw [show (108 : Int32) = nI 108 from rfl, e1, ob]
      rw [if_neg (show ¬ nI 0 = 2 by decide), h4, h44, a48, e2, ob, if_neg (show ¬ (2 : Int32) ≤ nI 0 by decide)]
      rw [if_pos (show nI 0 = 0 from rfl)]
      rw [show (43 : Int32) = nI 43 from rfl, e3, ob, if_neg (show ¬ (2 : Int32) ≤ nI 0 by decide), h16, h169, a49, e4, ob, ad_1]
  · refine ⟨cq (cq (cq (cq ch p 114) (p + 1) (48 + Z / 4 % 4)) (p + 2) 47) (p + 3) (49 + Z / 16 % 9), p + 4, Or.inl ⟨Or.inr ⟨?_, ?_⟩, rfl, ?_, ?_⟩, by omega, fun i hi => ?_, fun K mu x hA hT => ?_⟩
    · rw [cq_n (by omega), cq_n (by omega), cq_n (by omega), cq_s]
    · rw [cq_n (by omega), cq_s]
    · rw [cq_n (by omega), cq_n (by omega), cq_s]; omega
    · rw [cq_s]; omega
    · rw [cq_n (by omega), cq_n (by omega), cq_n (by omega), cq_n (by omega)]
    · obtain ⟨m1, e1, A1, T1⟩ := ap_c (k := 114) hA hT (by omega) (by omega) (by omega)
      obtain ⟨m2, e2, A2, T2⟩ := ap_c (k := 48 + Z / 4 % 4) A1 T1 (by omega) (by omega) (by omega)
      obtain ⟨m3, e3, A3, T3⟩ := ap_c (k := 47) A2 T2 (by omega) (by omega) (by omega)
      obtain ⟨m4, e4, A4, T4⟩ := ap_c (k := 49 + Z / 16 % 9) A3 T3 (by omega) (by omega) (by omega)
      refine ⟨m4, ?_, A4, T4⟩
      unfold f6_acts_314 f6_acts_357 f6_acts_393 f6_acts_421 f6_acts_429 f6_acts_459
      rw [hk, hm]
      rw [if_neg (show ¬ nI 1 = 0 by decide), if_pos (show nI 1 = 1 from rfl)]
      rw [show (114 : Int32) = nI 114 from rfl, e1, ob]
      rw [if_neg (show ¬ nI 1 = 2 by decide), h4, h44, a48, e2, ob, if_neg (show ¬ (2 : Int32) ≤ nI 1 by decide)]
      rw [if_neg (show ¬ nI 1 = 0 by decide)]
      rw [show (47 : Int32) = nI 47 from rfl, e3, ob, if_neg (show ¬ (2 : Int32) ≤ nI 1 by decide), h16, h169, a49, e4, ob, ad_1]
  · refine ⟨cq (cq ch p 116) (p + 1) (49 + Z / 4 % 9), p + 2, Or.inr (Or.inl ⟨?_, rfl, ?_⟩), by omega, fun i hi => ?_, fun K mu x hA hT => ?_⟩
    · rw [cq_n (by omega), cq_s]
    · rw [cq_s]; omega
    · rw [cq_n (by omega), cq_n (by omega)]
    · obtain ⟨m1, e1, A1, T1⟩ := ap_c (k := 116) hA hT (by omega) (by omega) (by omega)
      obtain ⟨m2, e2, A2, T2⟩ := ap_c (k := 49 + Z / 4 % 9) A1 T1 (by omega) (by omega) (by omega)
      refine ⟨m2, ?_, A2, T2⟩
      unfold f6_acts_314 f6_acts_357 f6_acts_393 f6_acts_429 f6_acts_459
      rw [hk, hm]
      rw [if_neg (show ¬ nI 2 = 0 by decide), if_neg (show ¬ nI 2 = 1 by decide), if_pos (show nI 2 = 2 from rfl)]
      rw [show (116 : Int32) = nI 116 from rfl, e1, ob]
      rw [if_pos (show nI 2 = 2 from rfl), h4, h49, a49, e2, ob, if_pos (show (2 : Int32) ≤ nI 2 by decide), if_pos (show (2 : Int32) ≤ nI 2 by decide), ad_1]
  · refine ⟨cq (cq ch p 109) (p + 1) (48 + Z / 4 % 4), p + 2, Or.inr (Or.inr ⟨?_, rfl, ?_⟩), by omega, fun i hi => ?_, fun K mu x hA hT => ?_⟩
    · rw [cq_n (by omega), cq_s]
    · rw [cq_s]; omega
    · rw [cq_n (by omega), cq_n (by omega)]
    · obtain ⟨m1, e1, A1, T1⟩ := ap_c (k := 109) hA hT (by omega) (by omega) (by omega)
      obtain ⟨m2, e2, A2, T2⟩ := ap_c (k := 48 + Z / 4 % 4) A1 T1 (by omega) (by omega) (by omega)
      refine ⟨m2, ?_, A2, T2⟩
      unfold f6_acts_314 f6_acts_357 f6_acts_393 f6_acts_429 f6_acts_459
      rw [hk, hm]
      rw [if_neg (show ¬ nI 3 = 0 by decide), if_neg (show ¬ nI 3 = 1 by decide), if_neg (show ¬ nI 3 = 2 by decide)]
      rw [show (109 : Int32) = nI 109 from rfl, e1, ob]
      rw [if_neg (show ¬ nI 3 = 2 by decide), h4, h44, a48, e2, ob, if_pos (show (2 : Int32) ≤ nI 3 by decide), if_pos (show (2 : Int32) ≤ nI 3 by decide), ad_1]
theorem shr_n {a s : Int32} (h : 0 ≤ a.toInt) : ∃ Z, Z < 2 ^ 31 ∧ a >>> s = nI Z := by
  obtain ⟨k, hk, rfl⟩ := nn_n h
  have e := pk_shrN (n := k) (by omega) s _ rfl
  exact ⟨_, Nat.lt_of_le_of_lt (Nat.div_le_self _ _) hk, e⟩
theorem lp_A {S : Stt} {B : Int} {y : Nat} (hy : y < 2 ^ 31) (hJ : JS B S) (hB : B ≤ 700000000) : ∀ d j fuel ch L, 1 + y % 4 - j = d → j ≤ 1 + y % 4 → d < fuel → (j = 0 ∧ L = 0 ∨ 1 ≤ j ∧ OKs ch j 0 L ∧ L ≤ 5 * j) →
    ∃ r S', JS (B + 7200) S' ∧ ∀ mu x5, AS mu S → TX mu ch L → (1 ≤ j → x5 = nI L) → ∃ mu', f6_acts_279 fuel (nI y) x5 (nI j) mu = some (r, mu') ∧ AS mu' S' := by
  have hm : y % 4 < 4 := Nat.mod_lt _ (by omega)
  have hk : 1 + rmI (nI y) 4 = nI (1 + y % 4) := by rw [show rmI (nI y) 4 = nI (y % 4) from rm_n (b := 4) hy (by omega) (by omega)]; exact nI_add 1 _
  have h4 : (nI y) / 4 = nI (y / 4) := dv_n (b := 4) hy (by omega) (by omega)
  intro d
  induction d with
  | zero =>
    intro j fuel ch L hd hj hf hL
    obtain ⟨m, rfl⟩ : ∃ m, fuel = m + 1 := ⟨fuel - 1, by omega⟩
    obtain rfl : j = 1 + y % 4 := by omega
    rcases hL with hL | ⟨h1, ho, hL5⟩
    · omega
    · have hl2 := oks_le ho
      obtain ⟨r, S', k1, k2⟩ := x_exec hJ ho (by omega) (by omega) (by omega)
      refine ⟨r, S', k1, fun mu x5 hA hT hx => ?_⟩
      obtain rfl := hx h1
      obtain ⟨mu', e1, e2⟩ := k2 mu hA hT
      refine ⟨mu', ?_, e2⟩
      simp only [f6_acts_279]
      rw [hk, if_pos (Int32.le_refl _), if_neg (by rw [show (1 : Int32) = nI 1 from rfl, n_lt (by omega) (by omega)]; omega), (fe_s hT ho).1, ob, if_pos rfl, e1, ob]
      rfl
  | succ d ih =>
    intro j fuel ch L hd hj hf hL
    obtain ⟨m, rfl⟩ : ∃ m, fuel = m + 1 := ⟨fuel - 1, by omega⟩
    obtain ⟨Z, hZ, eZ⟩ := shr_n (a := nI (y / 4)) (s := (5 * nI j) &&& 31) (by rw [nI_toInt (by omega)]; omega)
    rcases hL with ⟨rfl, rfl⟩ | ⟨h1, ho, hL5⟩
    · obtain ⟨ch', q, o1, o2, o3, o4⟩ := od_A (S := S) (ch := ch) (p := 0) (Z := Z) (j := 0) (x2 := nI y) (by omega) hZ
      obtain ⟨r, S', k1, k2⟩ := ih 1 m ch' q (by omega) (by omega) (by omega) (Or.inr ⟨by omega, ⟨q, o1, Or.inl ⟨rfl, rfl⟩⟩, by omega⟩)
      refine ⟨r, S', k1, fun mu x5 hA hT _ => ?_⟩
      obtain ⟨mu1, e1, A1, T1⟩ := o4 (f6_acts_279 m) mu 0 hA hT
      obtain ⟨mu', e2, A2⟩ := k2 mu1 (nI q) A1 T1 (fun _ => rfl)
      refine ⟨mu', ?_, A2⟩
      simp only [f6_acts_279]
      rw [hk, if_neg (by rw [n_le (by omega) (by omega)]; omega), if_pos (show nI 0 ≤ 0 by decide), h4, eZ, e1, e2]
    · have hl2 := oks_le ho
      obtain ⟨ch', q, o1, o2, o3, o4⟩ := od_A (S := S) (ch := cq ch L 59) (p := L + 1) (Z := Z) (j := j) (x2 := nI y) (by omega) hZ
      have h59 : ch' L = 59 := by rw [o3 L (by omega), cq_s]
      have ho' : OKs ch' j 0 L := oks_c (fun i hi => by rw [o3 i (by omega), cq_n (by omega)]) ho
      obtain ⟨r, S', k1, k2⟩ := ih (j + 1) m ch' q (by omega) (by omega) (by omega) (Or.inr ⟨by omega, oks_snoc h59 o1 ho', by omega⟩)
      refine ⟨r, S', k1, fun mu x5 hA hT _ => ?_⟩
      obtain ⟨mu0, e0, A0, T0⟩ := ap_c (k := 59) hA hT (by omega) (by omega) (by omega)
      obtain ⟨mu1, e1, A1, T1⟩ := o4 (f6_acts_279 m) mu0 (nI (L + 1)) A0 T0
      obtain ⟨mu', e2, A2⟩ := k2 mu1 (nI q) A1 T1 (fun _ => rfl)
      refine ⟨mu', ?_, A2⟩
      simp only [f6_acts_279]
      rw [hk, if_neg (by rw [n_le (by omega) (by omega)]; omega), if_neg (by rw [show (0 : Int32) = nI 0 from rfl, n_le (by omega) (by omega)]; omega), show (59 : Int32) = nI 59 from rfl, e0, ob, h4, eZ, e1, e2]
theorem g_text {S : Stt} {B : Int} {y : Nat} (hy : y < 2 ^ 31) (hJ : JS B S) (hB : B ≤ 700000000) : GO (fun mu => Option.bind (f4_clearBuffer_0 mu) (fun t => f6_acts_279 10 (nI y) t.1 0 t.2)) (B + 12000) S := by
  have hm : y % 4 < 4 := Nat.mod_lt _ (by omega)
  obtain ⟨r, S', k1, k2⟩ := lp_A hy hJ hB (1 + y % 4) 0 10 (fun _ => 0) 0 (by omega) (by omega) (by omega) (Or.inl ⟨rfl, rfl⟩)
  refine ⟨r, S', js_mono k1 (by omega), fun mu hA => ?_⟩
  obtain ⟨x, mu0, e0, A0, T0, -⟩ := cl_s hA (fun _ => 0)
  obtain ⟨mu', e1, A1⟩ := k2 mu0 x A0 T0 (fun h => by omega)
  refine ⟨mu', ?_, A1⟩
  show Option.bind (f4_clearBuffer_0 mu) (fun t => f6_acts_279 10 (nI y) t.1 0 t.2) = _
  rw [e0, ob]
  exact e1
theorem g_38 {S : Stt} {B : Int} {y : Nat} (hy : y < 2 ^ 31) (hJ : JS B S) (hB : B ≤ 700000000) (x4 y0 : Int32) : GO (f6_acts_38 (nI y) x4 y0) (B + 12000) S := by
  have hr3 : rmI (nI y) 3 = nI (y % 3) := rm_n (b := 3) hy (by omega) (by omega)
  by_cases e0 : y0 = 0
  · refine go_c (fun mu _ => ?_) (go_b (g_car hJ) (by omega))
    unfold f6_acts_38
    rw [if_pos e0]
  by_cases e1 : y0 = 1
  · refine go_c (fun mu _ => ?_) (go_b (g_grade (rmI (nI y) 30) (rmI (nI y / 32) 10) hJ) (by omega))
    unfold f6_acts_38
    rw [if_neg e0, if_pos e1]
  by_cases e2 : y0 = 2
  · refine go_c (fun mu _ => ?_) (go_b (g_grade (rmI (nI y) 30) (rmI (nI y / 32) 10) hJ) (by omega))
    unfold f6_acts_38
    rw [if_neg e0, if_neg e1, if_pos e2]
  by_cases e3 : y0 = 3
  · refine go_c (fun mu _ => ?_) (go_b (g_spring (1 + rmI (nI y) 29) (rmI (nI y / 32) 41) hJ) (by omega))
    unfold f6_acts_38
    rw [if_neg e0, if_neg e1, if_neg e2, if_pos e3]
  by_cases e4 : y0 = 4
  · refine go_c (fun mu _ => ?_) (go_b (g_load x4 (1 + rmI (nI y / 8) 15) hJ (by omega)) (by omega))
    unfold f6_acts_38
    rw [if_neg e0, if_neg e1, if_neg e2, if_neg e3, if_pos e4]
  by_cases e5 : y0 = 5
  · refine go_c (fun mu _ => ?_) (go_b (g_load x4 (1 + rmI (nI y / 8) 15) hJ (by omega)) (by omega))
    unfold f6_acts_38
    rw [if_neg e0, if_neg e1, if_neg e2, if_neg e3, if_neg e4, if_pos e5]
  by_cases e6 : y0 = 6
  · refine go_c (fun mu _ => ?_) (go_b (g_load x4 (1 + rmI (nI y / 8) 15) hJ (by omega)) (by omega))
    unfold f6_acts_38
    rw [if_neg e0, if_neg e1, if_neg e2, if_neg e3, if_neg e4, if_neg e5, if_pos e6]
  by_cases e7 : y0 = 7
  · refine go_c (fun mu _ => ?_) (go_b (g_release x4 (rmI (nI y / 8) 10) hJ) (by omega))
    unfold f6_acts_38
    rw [if_neg e0, if_neg e1, if_neg e2, if_neg e3, if_neg e4, if_neg e5, if_neg e6, if_pos e7]
  by_cases e8 : y0 = 8
  · refine go_c (fun mu _ => ?_) (go_b (g_release x4 (rmI (nI y / 8) 10) hJ) (by omega))
    unfold f6_acts_38
    rw [if_neg e0, if_neg e1, if_neg e2, if_neg e3, if_neg e4, if_neg e5, if_neg e6, if_neg e7, if_pos e8]
  by_cases e9 : y0 = 9
  · refine go_c (fun mu _ => ?_) (go_b (g_release x4 (rmI (nI y / 8) 10) hJ) (by omega))
    unfold f6_acts_38
    rw [if_neg e0, if_neg e1, if_neg e2, if_neg e3, if_neg e4, if_neg e5, if_neg e6, if_neg e7, if_neg e8, if_pos e9]
  by_cases e10 : y0 = 10
  · refine go_c (fun mu _ => ?_) (go_b (g_release x4 (rmI (nI y / 8) 10) hJ) (by omega))
    unfold f6_acts_38
    rw [if_neg e0, if_neg e1, if_neg e2, if_neg e3, if_neg e4, if_neg e5, if_neg e6, if_neg e7, if_neg e8, if_neg e9, if_pos e10]
  by_cases e11 : y0 = 11
  · refine go_c (fun mu _ => ?_) (go_b (g_brake x4 (rmI (nI y / 8) 10) hJ) (by omega))
    unfold f6_acts_38
    rw [if_neg e0, if_neg e1, if_neg e2, if_neg e3, if_neg e4, if_neg e5, if_neg e6, if_neg e7, if_neg e8, if_neg e9, if_neg e10, if_pos e11]
  by_cases e12 : y0 = 12
  · refine go_c (fun mu _ => ?_) (go_b (g_brake x4 (rmI (nI y / 8) 10) hJ) (by omega))
    unfold f6_acts_38
    rw [if_neg e0, if_neg e1, if_neg e2, if_neg e3, if_neg e4, if_neg e5, if_neg e6, if_neg e7, if_neg e8, if_neg e9, if_neg e10, if_neg e11, if_pos e12]
  by_cases e13 : y0 = 13
  · refine go_c (fun mu _ => ?_) (go_b (g_pull x4 hJ) (by omega))
    unfold f6_acts_38
    rw [if_neg e0, if_neg e1, if_neg e2, if_neg e3, if_neg e4, if_neg e5, if_neg e6, if_neg e7, if_neg e8, if_neg e9, if_neg e10, if_neg e11, if_neg e12, if_pos e13]
  by_cases e14 : y0 = 14
  · refine go_c (fun mu _ => ?_) (go_b (g_pull x4 hJ) (by omega))
    unfold f6_acts_38
    rw [if_neg e0, if_neg e1, if_neg e2, if_neg e3, if_neg e4, if_neg e5, if_neg e6, if_neg e7, if_neg e8, if_neg e9, if_neg e10, if_neg e11, if_neg e12, if_neg e13, if_pos e14]
  by_cases e15 : y0 = 15
  · refine go_c (fun mu _ => ?_) (go_b (g_set (rmI (nI y) 3) (1 + rmI (nI y / 4) 4) hJ) (by omega))
    unfold f6_acts_38
    rw [if_neg e0, if_neg e1, if_neg e2, if_neg e3, if_neg e4, if_neg e5, if_neg e6, if_neg e7, if_neg e8, if_neg e9, if_neg e10, if_neg e11, if_neg e12, if_neg e13, if_neg e14, if_pos e15]
  by_cases e16 : y0 = 16
  · refine go_c (fun mu _ => ?_) (go_b (g_undo hJ) (by omega))
    unfold f6_acts_38
    rw [if_neg e0, if_neg e1, if_neg e2, if_neg e3, if_neg e4, if_neg e5, if_neg e6, if_neg e7, if_neg e8, if_neg e9, if_neg e10, if_neg e11, if_neg e12, if_neg e13, if_neg e14, if_neg e15, if_pos e16]
  by_cases e17 : y0 = 17
  · refine go_c (fun mu _ => ?_) (go_b (g_undo hJ) (by omega))
    unfold f6_acts_38
    rw [if_neg e0, if_neg e1, if_neg e2, if_neg e3, if_neg e4, if_neg e5, if_neg e6, if_neg e7, if_neg e8, if_neg e9, if_neg e10, if_neg e11, if_neg e12, if_neg e13, if_neg e14, if_neg e15, if_neg e16, if_pos e17]
  by_cases e18 : y0 = 18
  · refine go_c (fun mu _ => ?_) (go_b (g_keep (rmI (nI y) 2) hJ) (by omega))
    unfold f6_acts_38
    rw [if_neg e0, if_neg e1, if_neg e2, if_neg e3, if_neg e4, if_neg e5, if_neg e6, if_neg e7, if_neg e8, if_neg e9, if_neg e10, if_neg e11, if_neg e12, if_neg e13, if_neg e14, if_neg e15, if_neg e16, if_neg e17, if_pos e18]
  by_cases e19 : y0 = 19
  · refine go_c (fun mu _ => ?_) (go_b (g_goBack (rmI (nI y) 2) hJ) (by omega))
    unfold f6_acts_38
    rw [if_neg e0, if_neg e1, if_neg e2, if_neg e3, if_neg e4, if_neg e5, if_neg e6, if_neg e7, if_neg e8, if_neg e9, if_neg e10, if_neg e11, if_neg e12, if_neg e13, if_neg e14, if_neg e15, if_neg e16, if_neg e17, if_neg e18, if_pos e19]
  by_cases e20 : y0 = 20
  · refine go_c (fun mu _ => ?_) (g_text hy hJ hB)
    unfold f6_acts_38
    rw [if_neg e0, if_neg e1, if_neg e2, if_neg e3, if_neg e4, if_neg e5, if_neg e6, if_neg e7, if_neg e8, if_neg e9, if_neg e10, if_neg e11, if_neg e12, if_neg e13, if_neg e14, if_neg e15, if_neg e16, if_neg e17, if_neg e18, if_neg e19, if_pos e20]
  by_cases e21 : y0 = 21
  · refine go_c (fun mu _ => ?_) (g_text hy hJ hB)
    unfold f6_acts_38
    rw [if_neg e0, if_neg e1, if_neg e2, if_neg e3, if_neg e4, if_neg e5, if_neg e6, if_neg e7, if_neg e8, if_neg e9, if_neg e10, if_neg e11, if_neg e12, if_neg e13, if_neg e14, if_neg e15, if_neg e16, if_neg e17, if_neg e18, if_neg e19, if_neg e20, if_pos e21]
  by_cases e22 : y0 = 22
  · refine go_c (fun mu _ => ?_) (g_text hy hJ hB)
    unfold f6_acts_38
    rw [if_neg e0, if_neg e1, if_neg e2, if_neg e3, if_neg e4, if_neg e5, if_neg e6, if_neg e7, if_neg e8, if_neg e9, if_neg e10, if_neg e11, if_neg e12, if_neg e13, if_neg e14, if_neg e15, if_neg e16, if_neg e17, if_neg e18, if_neg e19, if_neg e20, if_neg e21, if_pos e22]
  refine go_c (g := fun mu => Option.bind (f6_run_0 (1 + rmI (nI y) (if y % 3 = 0 then 60 else 10)) mu) (fun t => some (t.1, t.2))) (fun mu _ => ?_) (go_b (g_run _ hJ (by omega)) (by omega))
  unfold f6_acts_38 f6_acts_508
  rw [if_neg e0, if_neg e1, if_neg e2, if_neg e3, if_neg e4, if_neg e5, if_neg e6, if_neg e7, if_neg e8, if_neg e9, if_neg e10, if_neg e11, if_neg e12, if_neg e13, if_neg e14, if_neg e15, if_neg e16, if_neg e17, if_neg e18, if_neg e19, if_neg e20, if_neg e21, if_neg e22, hr3]
  by_cases e : y % 3 = 0
  · rw [e, if_pos (show nI 0 = 0 from rfl), if_pos rfl, gr_i (by decide)]
  · rw [if_neg (show ¬ nI (y % 3) = 0 by rw [show (0 : Int32) = nI 0 from rfl, n_eq (by omega) (by omega)]; exact e), if_neg e, gr_i (by decide)]
theorem g_acts {S : Stt} {B : Int} {c : Nat} (hc : c < 2 ^ 31) (hJ : JS B S) (hB : B ≤ 700000000) : GO (f6_acts_0 (nI c)) (B + 12000) S := by
  obtain ⟨N, hN⟩ := hJ.1
  have hN8 := hN.2.1
  have hw := hN.2.2.1
  have h32 : (nI c) / 32 = nI (c / 32) := dv_n (b := 32) hc (by omega) (by omega)
  have cn : ∀ mu, AS mu S → f6_count_0 mu 1 = some (nI N) := fun mu hA => (cn_s (j := 1) hA hN8 hw (by omega) (by omega)).trans (congrArg some hw)
  have g23 : ∀ x3 y0, GO (f6_acts_23 (nI c) (nI (c / 32)) x3 y0) (B + 12000) S := fun x3 y0 => by
    by_cases h3 : 3 ≤ x3
    · exact go_c (fun mu _ => by unfold f6_acts_23; rw [if_pos h3]) (g_38 (show c / 32 < 2 ^ 31 by omega) hJ hB y0 (rmI (nI c) 32))
    · exact go_c (fun mu _ => by unfold f6_acts_23; rw [if_neg h3]) (g_38 (show c / 32 < 2 ^ 31 by omega) hJ hB y0 0)
  by_cases h1 : 1 ≤ nI N
  · refine go_c (fun mu hA => ?_) (g23 (nI N) (rmI (nI (c / 32)) (nI N)))
    unfold f6_acts_0
    rw [cn mu hA, ob, if_pos h1, gr_i (fun e => by rw [e] at h1; exact absurd h1 (by decide)), h32]
  · refine go_c (fun mu hA => ?_) (g23 (nI N) 0)
    unfold f6_acts_0
    rw [cn mu hA, ob, if_neg h1, h32]
