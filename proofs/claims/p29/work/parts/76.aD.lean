/-! p29: the order text that the law writes, and what carrying it out does -/
theorem rm_n {a b : Nat} (ha : a < 2 ^ 31) (hb : b < 2 ^ 31) (h0 : 0 < b) : rmI (nI a) (nI b) = nI (a % b) := by
  have e := Nat.div_add_mod' a b
  have hm : a % b < b := Nat.mod_lt _ h0
  unfold rmI
  rw [dv_n ha hb h0, pk_mul, i_eq, i_sub] <;> rw [nI_toInt (by omega), nI_toInt (by omega)]
  · rw [nI_toInt (by omega)]; omega
  · omega
  · omega
theorem nn_n {x : Int32} (h : 0 ≤ x.toInt) : ∃ k, k < 2 ^ 31 ∧ x = nI k := by
  have h2 := x.toInt_lt
  refine ⟨x.toInt.toNat, by omega, ?_⟩
  rw [i_eq, nI_toInt (by omega)]
  omega
def vI (ch : Nat → Nat) : Vc := fun i => nI (ch i)
/-- the buffer holds the first L signs of ch -/
def TX (mu : Nat → Nat → Int32) (ch : Nat → Nat) (L : Nat) : Prop := L ≤ 60 ∧ mu 12 60 = nI L ∧ ∀ i, i < L → mu 12 i = nI (ch i) ∧ 33 ≤ ch i ∧ ch i ≤ 126
theorem tx_tc {mu : Nat → Nat → Int32} {ch : Nat → Nat} {L : Nat} (h : TX mu ch L) : TC (mu 12) (vI ch) L := ⟨h.1, h.2.1, fun i hi => (h.2.2 i hi).1, fun i hi => ⟨ch i, (h.2.2 i hi).2.1, (h.2.2 i hi).2.2, rfl⟩⟩
theorem tx_tn {mu : Nat → Nat → Int32} {ch : Nat → Nat} {L p : Nat} (h : TX mu ch L) (hp : p < L) : tN (vI ch) L p = ch p := by
  have := (h.2.2 p hp).2
  unfold tN tx vI
  rw [if_pos hp]
  exact cl_n (by omega)
theorem ap_s {mu : Nat → Nat → Int32} {S : Stt} {ch : Nat → Nat} {L k : Nat} (h : AS mu S) (hT : TX mu ch L) (hL : L < 60) (h1 : 33 ≤ k) (h2 : k ≤ 126) : ∃ mu', f6_append_0 (nI k) mu = some (nI (L + 1), mu') ∧ AS mu' S ∧ TX mu' (fun i => if i = L then k else ch i) (L + 1) := by
  obtain ⟨t1, t2, t3⟩ := hT
  refine ⟨s1 mu 12 (upd (upd (mu 12) L (nI k)) 60 (nI (L + 1))), ?_, as_x h ⟨L + 1, by omega, upd_s⟩, by omega, by rw [s1_k, upd_s], fun i hi => ?_⟩
  · unfold f6_append_0 f4_append_0 f2_addSign_0 f2_addSign_38 f2_addSign_16
    rw [iw_s, ob, b01_t ⟨(n_le (a := 33) (by omega) (by omega)).mpr h1, (n_le (b := 126) (by omega) (by omega)).mpr h2⟩, if_neg n10, chr_u (by omega), chr_n (by omega), t2, if_neg (nI_n0 (by omega)), if_pos (show nI L < 60 by rw [show (60 : Int32) = nI 60 from rfl, n_lt (by omega) (by omega)]; omega)]
    simp (disch := omega) only [gd_n, cl_n, ob, if_neg n10, upd_n, t2, ad_1, s1_k, upd_s, if_true]
  · rw [s1_k, upd_n (by omega)]
    show _ = nI (if i = L then k else ch i) ∧ 33 ≤ (if i = L then k else ch i) ∧ (if i = L then k else ch i) ≤ 126
    by_cases e : i = L
    · subst e; rw [upd_s, if_pos rfl]; exact ⟨rfl, h1, h2⟩
    · rw [upd_n e, if_neg e]; exact t3 i (by omega)
theorem cl_s {mu : Nat → Nat → Int32} {S : Stt} (h : AS mu S) (ch : Nat → Nat) : ∃ x mu', f4_clearBuffer_0 mu = some (x, mu') ∧ AS mu' S ∧ TX mu' ch 0 ∧ mu 12 60 = x :=
  ⟨_, _, rfl, as_x h ⟨0, by omega, upd_s⟩, ⟨by omega, by rw [s1_k, upd_s]; rfl, fun i hi => by omega⟩, rfl⟩
/-- an order from p up to q -/
def OK1 (ch : Nat → Nat) (p q : Nat) : Prop :=
  ((ch p = 108 ∧ ch (p + 2) = 43 ∨ ch p = 114 ∧ ch (p + 2) = 47) ∧ q = p + 4 ∧ (48 ≤ ch (p + 1) ∧ ch (p + 1) ≤ 51) ∧ 49 ≤ ch (p + 3) ∧ ch (p + 3) ≤ 57) ∨
  (ch p = 116 ∧ q = p + 2 ∧ 49 ≤ ch (p + 1) ∧ ch (p + 1) ≤ 57) ∨ (ch p = 109 ∧ q = p + 2 ∧ 48 ≤ ch (p + 1) ∧ ch (p + 1) ≤ 51)
theorem ok1_c {ch ch' : Nat → Nat} {p q : Nat} (h : OK1 ch p q) (e : ∀ i, i < q → ch' i = ch i) : OK1 ch' p q := by
  unfold OK1 at h ⊢
  rcases h with ⟨h0, h1, h2, h3⟩ | ⟨h0, h1, h2⟩ | ⟨h0, h1, h2⟩
  · rw [e p (by omega), e (p + 1) (by omega), e (p + 2) (by omega), e (p + 3) (by omega)]
    exact Or.inl ⟨h0, h1, h2, h3⟩
  · rw [e p (by omega), e (p + 1) (by omega)]
    exact Or.inr (Or.inl ⟨h0, h1, h2⟩)
  · rw [e p (by omega), e (p + 1) (by omega)]
    exact Or.inr (Or.inr ⟨h0, h1, h2⟩)
theorem ok1_lt {ch : Nat → Nat} {p q : Nat} (h : OK1 ch p q) : p + 2 ≤ q := by
  unfold OK1 at h
  omega
/-- n orders from p up to L, a semicolon between -/
def OKs (ch : Nat → Nat) : Nat → Nat → Nat → Prop
  | 0, _, _ => False
  | n + 1, p, L => ∃ q, OK1 ch p q ∧ (q = L ∧ n = 0 ∨ q < L ∧ ch q = 59 ∧ OKs ch n (q + 1) L)
theorem oks_le {ch : Nat → Nat} {L : Nat} : ∀ {n p : Nat}, OKs ch n p L → p + 2 ≤ L
  | 0, _, h => h.elim
  | n + 1, p, ⟨q, h1, h2⟩ => by
    have := ok1_lt h1
    rcases h2 with h2 | h2 <;> omega
theorem oks_c {ch ch' : Nat → Nat} {L : Nat} (e : ∀ i, i < L → ch' i = ch i) : ∀ {n p : Nat}, OKs ch n p L → OKs ch' n p L
  | 0, _, h => h
  | n + 1, p, ⟨q, h1, h2⟩ => by
    rcases h2 with ⟨h2, h3⟩ | ⟨h2, h3, h4⟩
    · exact ⟨q, ok1_c h1 (fun i hi => e i (by omega)), Or.inl ⟨h2, h3⟩⟩
    · exact ⟨q, ok1_c h1 (fun i hi => e i (by omega)), Or.inr ⟨h2, by rw [e q h2]; exact h3, oks_c e h4⟩⟩
theorem oks_snoc {ch : Nat → Nat} {L q : Nat} (h59 : ch L = 59) (h1 : OK1 ch (L + 1) q) : ∀ {n p : Nat}, OKs ch n p L → OKs ch (n + 1) p q
  | 0, _, h => h.elim
  | n + 1, p, ⟨r, h2, h3⟩ => by
    have := ok1_lt h1
    rcases h3 with ⟨rfl, rfl⟩ | ⟨h3, h4, h5⟩
    · exact ⟨r, h2, Or.inr ⟨by omega, h59, q, h1, Or.inl ⟨rfl, rfl⟩⟩⟩
    · exact ⟨r, h2, Or.inr ⟨by omega, h4, oks_snoc h59 h1 h5⟩⟩
theorem fd_fin {k g : Nat} (h : 49 ≤ k ∧ k ≤ 57) : fin (fdN k g) := by
  rw [fd_yes h]
  unfold fin
  by_cases a : k = g
  · rw [if_pos a]; omega
  · rw [if_neg a]
    by_cases b : g ≤ k
    · rw [if_pos b]; omega
    · rw [if_neg b]; omega
theorem pt_o {mu : Nat → Nat → Int32} {ch : Nat → Nat} {L p q : Nat} (h : TX mu ch L) (h1 : OK1 ch p q) (hq : q ≤ L) : ∃ d, fin d ∧ PT (mu 12) 0 p d q := by
  have hT := tx_tc h
  have tn : ∀ i, i < L → tN (vI ch) L i = ch i := fun i hi => tx_tn h hi
  rcases h1 with ⟨h0, rfl, h2, h3⟩ | ⟨h0, rfl, h2⟩ | ⟨h0, rfl, h2⟩
  · have f4 := fd_fin (g := 50) h3
    have l4 := fin_lt f4
    rcases h0 with ⟨a, b⟩ | ⟨a, b⟩
    · refine ⟨fdN (ch (p + 3)) 50, f4, pt_t (pt_1 (d' := 2) hT (by omega) (by omega) (by rw [tn p (by omega), a]; rfl) (by omega)) (pt_t (pt_1 (d' := 3) hT (by omega) (by omega) (by rw [tn (p + 1) (by omega), du_2, if_pos (by omega)]) (by omega)) (pt_t (pt_1 (d' := 4) hT (by omega) (by omega) (by rw [tn (p + 2) (by omega), b]; rfl) (by omega)) (pt_1 hT (by omega) (by omega) (by rw [tn (p + 3) (by omega), du_4]) l4)))⟩
    · refine ⟨1, fin_1, pt_t (pt_1 (d' := 5) hT (by omega) (by omega) (by rw [tn p (by omega), a]; rfl) (by omega)) (pt_t (pt_1 (d' := 6) hT (by omega) (by omega) (by rw [tn (p + 1) (by omega), du_5, if_pos (by omega)]) (by omega)) (pt_t (pt_1 (d' := 7) hT (by omega) (by omega) (by rw [tn (p + 2) (by omega), b]; rfl) (by omega)) (pt_1 hT (by omega) (by omega) (by rw [tn (p + 3) (by omega), du_7, if_pos (by omega)]) (by omega))))⟩
  · have f4 := fd_fin (g := 54) h2
    have l4 := fin_lt f4
    exact ⟨fdN (ch (p + 1)) 54, f4, pt_t (pt_1 (d' := 9) hT (by omega) (by omega) (by rw [tn p (by omega), h0]; rfl) (by omega)) (pt_1 hT (by omega) (by omega) (by rw [tn (p + 1) (by omega), du_9]) l4)⟩
  · exact ⟨1, fin_1, pt_t (pt_1 (d' := 8) hT (by omega) (by omega) (by rw [tn p (by omega), h0]; rfl) (by omega)) (pt_1 hT (by omega) (by omega) (by rw [tn (p + 1) (by omega), du_8, if_pos (by omega)]) (by omega))⟩
theorem pt_os {mu : Nat → Nat → Int32} {ch : Nat → Nat} {L : Nat} (h : TX mu ch L) : ∀ {n p : Nat}, OKs ch n p L → ∃ d, fin d ∧ PT (mu 12) 0 p d L
  | 0, _, q => q.elim
  | n + 1, p, ⟨q, h1, h2⟩ => by
    rcases h2 with ⟨rfl, -⟩ | ⟨h2, h3, h4⟩
    · exact pt_o h h1 (Nat.le_refl _)
    · obtain ⟨d, d1, d2⟩ := pt_o h h1 (by omega)
      obtain ⟨e, e1, e2⟩ := pt_os h h4
      exact ⟨e, e1, pt_t d2 (pt_t (pt_1 (d' := 0) (tx_tc h) h2 (fin_lt d1) (by rw [tx_tn h h2, h3]; exact fin_59 d1) (by omega)) e2)⟩
theorem fe_s {mu : Nat → Nat → Int32} {ch : Nat → Nat} {L n : Nat} (h : TX mu ch L) (ho : OKs ch n 0 L) : f4_firstError_0 mu = some (nI L) ∧ f2_isComplete_0 (mu 12) = some 1 := by
  obtain ⟨d, d1, d2, d3⟩ := pt_os h ho
  have hL := h.1
  have e := d3 ((999 - L) + 1)
  rw [show (999 - L) + 1 + (L - 0) = fu by rw [fu_eq]; omega] at e
  obtain ⟨e1, e2, -⟩ := pt_e (tx_tc h) (fin_lt d1) (999 - L)
  constructor
  · unfold f4_firstError_0 f2_errorIndex_0
    rw [show f2_errorIndex_4 (mu 12) fu 0 0 = _ from e.1, e1, ob]
  · unfold f2_isComplete_0
    exact e.2.trans (e2 d1)
/-- an order is carried out -/
theorem pf_J {B : Int} {S : Stt} {ch : Nat → Nat} {L p q : Nat} (hJ : JS B S) (hB : B ≤ 800000000) (h1 : OK1 ch p q) (hq : q ≤ L) :
    ∃ b S', JS (B + 1800) S' ∧ (b = 0 ∨ b = 1) ∧ ∀ mu, AS mu S → TX mu ch L → ∃ mu', f4_perform_0 (nI p) (nI q) mu = some (b, mu') ∧ AS mu' S' ∧ mu' 12 = mu 12 := by
  obtain ⟨N, hN⟩ := hJ.1
  have hB0 := hJ.2.2.2
  have hN8 := hN.2.1
  have hw := hN.2.2.1
  have hlt := ok1_lt h1
  -- a changed state
  have fin' : ∀ (b : Int32) (w' : Vc), (b = 0 ∨ b = 1) → JW (B + 1800) w' → (∀ mu, AS mu S → TX mu ch L → ∃ mu', f4_perform_0 (nI p) (nI q) mu = some (b, mu') ∧ AS mu' (setS S w') ∧ mu' 12 = mu 12) → ∃ b S', JS (B + 1800) S' ∧ (b = 0 ∨ b = 1) ∧ ∀ mu, AS mu S → TX mu ch L → ∃ mu', f4_perform_0 (nI p) (nI q) mu = some (b, mu') ∧ AS mu' S' ∧ mu' 12 = mu 12 :=
    fun b w' h0 hw' h => ⟨b, _, js_set hJ (by omega) hw', h0, h⟩
  have same : (∀ mu, AS mu S → TX mu ch L → f4_perform_0 (nI p) (nI q) mu = some (0, mu)) → ∃ b S', JS (B + 1800) S' ∧ (b = 0 ∨ b = 1) ∧ ∀ mu, AS mu S → TX mu ch L → ∃ mu', f4_perform_0 (nI p) (nI q) mu = some (b, mu') ∧ AS mu' S' ∧ mu' 12 = mu 12 :=
    fun h => ⟨0, S, js_mono hJ (by omega), Or.inl rfl, fun mu hA hT => ⟨mu, h mu hA hT, hA, rfl⟩⟩
  have num : ∀ {mu : Nat → Nat → Int32} (i : Nat), TX mu ch L → i < L → 48 ≤ ch i → f2_numberAt_0 (mu 12) (nI i) (nI (i + 1)) = some (nI (ch i - 48)) := fun {mu} i hT hi h48 => by
    have hb := (hT.2.2 i hi).2
    have hL := hT.1
    rw [na_1 (tx_tc hT) (by omega), (tn_s (tx_tc hT) i).1, tx_tn hT hi, sb_48 (by omega) h48]
  -- the orders for a car
  have car : ∀ (X : Nat), (ch p = 108 ∨ ch p = 114 ∨ ch p = 109) → (48 ≤ ch (p + 1) ∧ ch (p + 1) ≤ 51) → (∀ mu, TX mu ch L → f2_numberAt_0 (mu 12) (nI (p + 3)) (nI q) = some (nI X)) → X ≤ 9 → (ch p ≠ 109 → 1 ≤ X) →
      ∃ b S', JS (B + 1800) S' ∧ (b = 0 ∨ b = 1) ∧ ∀ mu, AS mu S → TX mu ch L → ∃ mu', f4_perform_0 (nI p) (nI q) mu = some (b, mu') ∧ AS mu' S' ∧ mu' 12 = mu 12 := by
    intro X hk hd hX hX9 hX1
    have base : ∀ mu, AS mu S → TX mu ch L → f4_perform_0 (nI p) (nI q) mu = if ch (p + 1) - 48 < N then Option.bind (f4_performOn_0 (nI (ch (p + 1) - 48)) (nI (ch p)) (nI X) mu) (fun t8 => if t8.1 = 0 then (f4_perform_110 t8.2) else (f4_perform_111 1 t8.2)) else some (0, mu) := fun mu hA hT => by
      have hw0 : mu 0 162 = nI N := by rw [hA.1]; exact hw
      have := pfS (tx_tc hT) (p := p) (q := q) (by omega) (C := ch (p + 1) - 48) (X := X) (by rw [tx_tn hT (by omega)]; omega) (num (p + 1) hT (by omega) hd.1) (hX mu hT) hN8 hw0 (by omega)
      rw [tx_tn hT (by omega)] at this
      exact this
    by_cases hC : ch (p + 1) - 48 < N
    · have ndone : ∀ (b : Int32) (w' : Vc), (b = 0 ∨ b = 1) → JW (B + 1800) w' → (∀ mu, AS mu S → f4_performOn_0 (nI (ch (p + 1) - 48)) (nI (ch p)) (nI X) mu = some (b, s1 mu 0 w')) → ∃ b S', JS (B + 1800) S' ∧ (b = 0 ∨ b = 1) ∧ ∀ mu, AS mu S → TX mu ch L → ∃ mu', f4_perform_0 (nI p) (nI q) mu = some (b, mu') ∧ AS mu' S' ∧ mu' 12 = mu 12 := fun b w' h0 hw' h => by
        refine fin' b w' h0 hw' (fun mu hA hT => ⟨s1 mu 0 w', ?_, as_s hA hw'.choose_spec.1, s1_n (by omega)⟩)
        rw [base mu hA hT, if_pos hC, h mu hA, ob]
        rcases h0 with rfl | rfl
        · rw [if_pos rfl, pf_n]
        · rw [if_neg n10, (pf_r 1 (Or.inr rfl) _).2.1]
      rcases hk with hk | hk | hk
      · by_cases hc : S.1 (90 + 9 * (ch (p + 1) - 48) + 0) = 0 ∧ ¬ 20 < S.1 (90 + 9 * (ch (p + 1) - 48) + 1) + nI X
        · have hX2 := hX1 (by omega)
          obtain ⟨r, w', a1, a2⟩ := lo_J hN (by omega) hC hc.1 (x := nI X) ⟨(n_le (a := 1) (by omega) (by omega)).mpr hX2, (n_le (b := 20) (by omega) (by omega)).mpr (by omega)⟩ hc.2
          refine ndone 1 w' (Or.inr rfl) ⟨_, jn_mono a2 (by omega)⟩ (fun mu hA => ?_)
          unfold f4_performOn_0
          rw [hk, if_neg (show ¬ nI 108 = 114 by decide), if_neg (show ¬ nI 108 = 109 by decide), if_pos (show nI 108 = 108 from rfl), hA.1, can_s hN8 hw hC, ob, b01_t hc, if_neg n10, a1, ob]
        · refine same (fun mu hA hT => ?_)
          rw [base mu hA hT, if_pos hC]
          unfold f4_performOn_0 f4_performOn_77 f4_performOn_106
          rw [hk, if_neg (show ¬ nI 108 = 114 by decide), if_neg (show ¬ nI 108 = 109 by decide), if_pos (show nI 108 = 108 from rfl), hA.1, can_s hN8 hw hC, ob, b01_f hc, if_pos rfl, if_neg (show ¬ nI 108 = 98 by decide), ob, if_pos rfl, pf_n]
      · obtain ⟨r, w', a1, a2⟩ := lr_J (x := nI X) hN hC (sml_n (by omega))
        by_cases hr : r = 0
        · refine ndone 1 w' (Or.inr rfl) ⟨_, jn_mono a2 (by omega)⟩ (fun mu hA => ?_)
          unfold f4_performOn_0
          rw [hk, if_pos (show nI 114 = 114 from rfl), hA.1, a1, ob, if_pos hr, (pf_r 1 (Or.inr rfl) _).2.2.1]
        · refine ndone 0 w' (Or.inl rfl) ⟨_, jn_mono a2 (by omega)⟩ (fun mu hA => ?_)
          unfold f4_performOn_0
          rw [hk, if_pos (show nI 114 = 114 from rfl), hA.1, a1, ob, if_neg hr, (pf_r 0 (Or.inl rfl) _).2.2.1]
      · obtain ⟨r, w', a1, a2⟩ := hm_J hN hC
        by_cases hr : r = 0
        · refine ndone 1 w' (Or.inr rfl) ⟨_, jn_mono a2 (by omega)⟩ (fun mu hA => ?_)
          unfold f4_performOn_0
          rw [hk, if_neg (show ¬ nI 109 = 114 by decide), if_pos (show nI 109 = 109 from rfl), hA.1, a1, ob, if_pos hr, (pf_r 1 (Or.inr rfl) _).2.2.2]
        · refine ndone 0 w' (Or.inl rfl) ⟨_, jn_mono a2 (by omega)⟩ (fun mu hA => ?_)
          unfold f4_performOn_0
          rw [hk, if_neg (show ¬ nI 109 = 114 by decide), if_pos (show nI 109 = 109 from rfl), hA.1, a1, ob, if_neg hr, (pf_r 0 (Or.inl rfl) _).2.2.2]
    · exact same (fun mu hA hT => by rw [base mu hA hT, if_neg hC])
  rcases h1 with ⟨h0, rfl, h2, h3⟩ | ⟨h0, rfl, h2⟩ | ⟨h0, rfl, h2⟩
  · exact car (ch (p + 3) - 48) (by omega) h2 (fun mu hT => num (p + 3) hT (by omega) (by omega)) (by omega) (fun _ => by omega)
  · obtain ⟨_, _, e2, e3⟩ := pa_J (T := ch (p + 1) - 48) (by omega) hN hB0 (by omega) (fun _ => 0)
    refine fin' 1 (tkT (ch (p + 1) - 48) S.1) (Or.inr rfl) ⟨N, jn_mono e2 (by omega)⟩ (fun mu hA hT => ?_)
    obtain ⟨a2, e1, _, _⟩ := pa_J (T := ch (p + 1) - 48) (by omega) hN hB0 (by omega) (mu 20)
    refine ⟨s1 (s1 mu 20 a2) 0 (tkT (ch (p + 1) - 48) S.1), ?_, as_s (as_n hA (by omega)) e2.1, by rw [s1_n (by omega), s1_n (by omega)]⟩
    have s1' := sg_s (tx_tc hT).1 (tx_tc hT).2.1 (tx_tc hT).2.2.1 (tx_tc hT).2.2.2 (i := p) (by have := hT.1; omega)
    rw [(tn_s (tx_tc hT) p).1, tx_tn hT (by omega), h0] at s1'
    unfold f4_perform_0
    rw [s1', ob, if_neg (show ¬ nI 116 = 110 by decide), if_pos (show nI 116 = 116 from rfl), ad_1, num (p + 1) hT (by omega) (by omega), ob]
    show Option.bind (f3_passTicks_0 (nI (ch (p + 1) - 48)) (mu 0) (mu 20)) _ = _
    rw [hA.1, e1, ob]
  · exact car 0 (by omega) h2 (fun mu hT => na_0 ((n_le (by have := hT.1; omega) (by have := hT.1; omega)).mpr (by omega))) (by omega) (fun h => absurd h0 h)
theorem nos_o {mu : Nat → Nat → Int32} {ch : Nat → Nat} {L p q : Nat} (h : TX mu ch L) (h1 : OK1 ch p q) (hq : q ≤ L) : noS (vI ch) L p q := fun i hi hi2 => by
  rw [tx_tn h (by omega)]
  unfold OK1 at h1
  rcases h1 with ⟨h0, h1, h2, h3⟩ | ⟨h0, h1, h2⟩ | ⟨h0, h1, h2⟩
  · obtain rfl | rfl | rfl | rfl : i = p ∨ i = p + 1 ∨ i = p + 2 ∨ i = p + 3 := by omega
    all_goals omega
  · obtain rfl | rfl : i = p ∨ i = p + 1 := by omega
    all_goals omega
  · obtain rfl | rfl : i = p ∨ i = p + 1 := by omega
    all_goals omega
theorem ex_J {ch : Nat → Nat} {L : Nat} : ∀ (n p e x fm : Nat) (B : Int) (S : Stt), OKs ch n p L → p ≤ e → e ≤ p + 1 → L - p + 3 ≤ fm → JS B S → B + 1800 * (n : Int) ≤ 800000000 → x + n < 1000 →
    ∃ r S', JS (B + 1800 * (n : Int)) S' ∧ ∀ mu, AS mu S → TX mu ch L → ∃ mu', f4_execute_27 fm (nI x) (nI p) (nI e) mu = some (0, r, mu') ∧ AS mu' S' := by
  intro n
  induction n with
  | zero => intro p e x fm B S h; exact h.elim
  | succ n ih =>
    intro p e x fm B S ⟨q, h1, h2⟩ he he2 hf hJ hB hx
    have hlt := ok1_lt h1
    have hqL : q ≤ L := by rcases h2 with h2 | h2 <;> omega
    obtain ⟨b, S1, j1, hb, hp⟩ := pf_J (L := L) hJ (by omega) h1 hqL
    have stop74 : ∀ (y : Int32) (mu : Nat → Nat → Int32) (S : Stt), AS mu S → ∃ mu', f4_execute_74 y mu = some (0, y, mu') ∧ AS mu' S := fun y mu S hA => ⟨_, rfl, as_x hA ⟨0, by omega, upd_s⟩⟩
    -- the scan up to the order's end
    have scan : ∀ mu, AS mu S → TX mu ch L → ∃ mu', f4_perform_0 (nI p) (nI q) mu = some (b, mu') ∧ AS mu' S1 ∧ mu' 12 = mu 12 ∧ f4_execute_27 fm (nI x) (nI p) (nI e) mu = (if b = 0 then f4_execute_74 (nI x) mu' else f4_execute_68 (f4_execute_27 (fm - (q - e) - 1)) (nI (x + 1)) (nI (q + 1)) (nI q) mu') := fun mu hA hT => by
      obtain ⟨mu', p1, p2, p3⟩ := hp mu hA hT
      refine ⟨mu', p1, p2, p3, ?_⟩
      have hL := hT.1
      have s := sc_e (x := nI x) (tx_tc hT) hqL (nos_o hT h1 hqL) (q - e) e (fm - (q - e)) rfl he (by omega)
      rw [show fm - (q - e) + (q - e) = fm by omega] at s
      rw [s]
      obtain ⟨g, hg⟩ : ∃ g, fm - (q - e) = g + 1 := ⟨fm - (q - e) - 1, by omega⟩
      rw [hg]
      show f4_execute_27 (g + 1) (nI x) (nI p) (nI q) mu = _
      simp only [f4_execute_27]
      rw [if_neg (by rw [hT.2.1, n_lt (by omega) (by omega)]; omega), oe_y (tx_tc hT) (by rcases h2 with h2 | h2; exact Or.inl h2.1; exact Or.inr ⟨h2.1, by rw [tx_tn hT h2.1]; exact h2.2.1⟩), ob, if_neg n10, p1, ob, ad_1, ad_1, Nat.add_sub_cancel]
    rcases hb with rfl | rfl
    · refine ⟨nI x, S1, js_mono j1 (by omega), fun mu hA hT => ?_⟩
      obtain ⟨mu', -, p2, p3, p4⟩ := scan mu hA hT
      obtain ⟨mu'', s1, s2⟩ := stop74 (nI x) mu' S1 p2
      exact ⟨mu'', by rw [p4, if_pos rfl, s1], s2⟩
    · rcases h2 with ⟨rfl, rfl⟩ | ⟨h2, h3, h4⟩
      · refine ⟨nI (x + 1), S1, js_mono j1 (by omega), fun mu hA hT => ?_⟩
        obtain ⟨mu', -, p2, p3, p4⟩ := scan mu hA hT
        obtain ⟨mu'', s1, s2⟩ := stop74 (nI (x + 1)) mu' S1 p2
        have hL := hT.1
        refine ⟨mu'', ?_, s2⟩
        rw [p4, if_neg n10]
        unfold f4_execute_68
        obtain ⟨g, hg⟩ : ∃ g, fm - (q - e) - 1 = g + 1 := ⟨fm - (q - e) - 2, by omega⟩
        rw [hg, ad_1]
        simp only [f4_execute_27]
        rw [p3, if_pos (by rw [hT.2.1, n_lt (by omega) (by omega)]; omega), s1]
      · have hl2 := oks_le h4
        obtain ⟨r, S', k1, k2⟩ := ih (q + 1) (q + 1) (x + 1) (fm - (q - e) - 1) (B + 1800) S1 h4 (Nat.le_refl _) (by omega) (by omega) j1 (by omega) (by omega)
        refine ⟨r, S', js_mono k1 (by omega), fun mu hA hT => ?_⟩
        obtain ⟨mu', -, p2, p3, p4⟩ := scan mu hA hT
        have hT' : TX mu' ch L := by unfold TX; rw [p3]; exact hT
        obtain ⟨mu'', s1, s2⟩ := k2 mu' p2 hT'
        refine ⟨mu'', ?_, s2⟩
        rw [p4, if_neg n10]
        unfold f4_execute_68
        rw [ad_1]
        exact s1
theorem x_exec {B : Int} {S : Stt} {ch : Nat → Nat} {L n : Nat} (hJ : JS B S) (ho : OKs ch n 0 L) (hn : n ≤ 4) (hB : B ≤ 700000000) (hL : L ≤ 60) : ∃ r S', JS (B + 7200) S' ∧ ∀ mu, AS mu S → TX mu ch L → ∃ mu', f6_execute_0 mu = some (r, mu') ∧ AS mu' S' := by
  obtain ⟨r, S', k1, k2⟩ := ex_J n 0 1 0 fu B (pushS S) ho (by omega) (by omega) (by rw [fu_eq]; omega) (js_push hJ) (by omega) (by omega)
  refine ⟨r, S', js_mono k1 (by omega), fun mu hA hT => ?_⟩
  obtain ⟨mu', g1, g2, g3, g4⟩ := as_push hA
  have hT' : TX mu' ch L := by unfold TX; rw [g4 12 (by omega)]; exact hT
  obtain ⟨mu'', s1, s2⟩ := k2 mu' g2 hT'
  refine ⟨mu'', ?_, s2⟩
  unfold f6_execute_0 f4_execute_0
  rw [(fe_s hT ho).2, ob, if_neg n10, g1, ob]
  show Option.bind (f4_execute_27 fu (nI 0) (nI 0) (nI 1) mu') _ = _
  rw [s1, ob, if_pos rfl]
