/-! an order carried out: both sides -/
theorem pf_r (b : Int32) (hb : b = 0 ∨ b = 1) (mu : Nat → Nat → Int32) : f4_perform_31 b mu = some (b, mu) ∧ f4_perform_111 b mu = some (b, mu) ∧ f4_performOn_23 b mu = some (b, mu) ∧ f4_performOn_46 b mu = some (b, mu) :=
  ⟨gz_i hb, gz_i hb, gz_i hb, gz_i hb⟩
theorem pf_n (mu : Nat → Nat → Int32) : f4_perform_110 mu = some (0, mu) := by
  unfold f4_perform_110
  exact (pf_r 0 (Or.inl rfl) mu).2.1
theorem pfS {mu : Nat → Nat → Int32} {v6 : Nat → Int32} {L p q : Nat} (hT : TC (mu 12) v6 L) (hp : p < L) {C X : Nat}
    (hl : tN v6 L p = 108 ∨ tN v6 L p = 114 ∨ tN v6 L p = 98 ∨ tN v6 L p = 109) (n1 : f2_numberAt_0 (mu 12) (nI (p + 1)) (nI (p + 2)) = some (nI C)) (n2 : f2_numberAt_0 (mu 12) (nI (p + 3)) (nI q) = some (nI X)) {N : Nat} (hN : N ≤ 8) (hw : mu 0 162 = nI N) (hC : C ≤ 7) :
    f4_perform_0 (nI p) (nI q) mu = if C < N then Option.bind (f4_performOn_0 (nI C) (nI (tN v6 L p)) (nI X) mu) (fun t8 => if t8.1 = 0 then (f4_perform_110 t8.2) else (f4_perform_111 1 t8.2)) else some (0, mu) := by
  obtain ⟨t1, t2, t3, t4⟩ := tn_s hT p
  have hL := hT.1
  have s1 := sg_s hT.1 hT.2.1 hT.2.2.1 hT.2.2.2 (i := p) (by omega)
  rw [t1] at s1
  have c : ∀ x : Nat, x < 128 → (nI (tN v6 L p) = nI x ↔ tN v6 L p = x) := fun x hx => n_eq (by omega) (by omega)
  unfold f4_perform_0
  rw [s1, ob, if_neg (show ¬ nI (tN v6 L p) = 110 from fun r => by have := (c 110 (by omega)).mp r; omega), if_neg (show ¬ nI (tN v6 L p) = 116 from fun r => by have := (c 116 (by omega)).mp r; omega), ad_1, show nI p + 2 = nI (p + 2) from nI_add p 2, show nI p + 3 = nI (p + 3) from nI_add p 3, n1, ob, hasCar_s hN hw, ob]
  by_cases hc : C < N
  · rw [if_pos hc, b01_t (k_car hN hc), if_neg n10, n2, ob]
  · rw [if_neg hc, b01_f (fun r => hc ((n_lt (by omega) (by omega)).mp r.2)), if_pos rfl, pf_n]
theorem dz_87 (x y : Int32) (hx : x = 0 ∨ x = 1) (v0 v1 v7 v8 : Nat → Int32) : f5_does_87 v0 x y v1 v7 v8 = some (x, v1, v7, v8) ∧ f5_does_131 v0 x y v1 v7 v8 = some (x, v1, v7, v8) ∧ f5_does_210 v0 x y v1 v7 v8 = some (x, v1, v7, v8) ∧ f5_does_242 v0 x v1 v7 v8 = some (x, v1, v7, v8) ∧ f5_does_166 v0 x v1 v7 v8 = some (x, v1, v7, v8) ∧ f5_does_241 v0 v1 v7 v8 = some (0, v1, v7, v8) ∧ f5_does_165 v0 v1 v7 v8 = some (0, v1, v7, v8) :=
  ⟨gz_i hx, gz_i hx, gz_i hx, gz_i hx, gz_i hx, gz_i (Or.inl rfl), gz_i (Or.inl rfl)⟩
theorem s1_12 {mu : Nat → Nat → Int32} {w : Nat → Int32} {k : Nat} (h : k ≠ 12) : s1 mu k w 12 = mu 12 := s1_n (fun e => h e.symm)
set_option maxHeartbeats 1000000 in
theorem pf_s {mu : Nat → Nat → Int32} {v0 v1 v3 v4 v5 v6 v7 v8 w : Nat → Int32} {L p q : Nat} (h : Rel mu v0 v1 v3 v4 v5 v6) (hT : TC (mu 12) v6 L) (hp : p < L) (h13 : w 13 = nI (tN v6 L p)) (hA : oA (mu 12) v6 L p q w) :
    ∃ b mu' v1' v7' v8', f4_perform_0 (nI p) (nI q) mu = some (b, mu') ∧ f5_does_0 w v1 v7 v8 = some (b, v1', v7', v8') ∧ Rel mu' v0 v1' v3 v4 v5 v6 ∧ mu' 12 = mu 12 ∧ (b = 0 ∨ b = 1) := by
  have hR := h
  obtain ⟨h1, h2, h3, h4, h5⟩ := h
  have hI : Inv v1 := h1 ▸ h2 0 (by omega)
  obtain ⟨N, hN, hw⟩ := inv_N hI
  have hw0 : mu 0 162 = nI N := by rw [h1]; exact hw
  obtain ⟨t1, t2, t3, t4⟩ := tn_s hT p
  have hL := hT.1
  have ss := sg_s hT.1 hT.2.1 hT.2.2.1 hT.2.2.2 (i := p) (by omega)
  rw [t1] at ss
  have c : ∀ x : Nat, x < 128 → (nI (tN v6 L p) = nI x ↔ tN v6 L p = x) := fun x hx => n_eq (by omega) (by omega)
  have cn : ∀ x y : Nat, x < 128 → tN v6 L p = y → y ≠ x → ¬ nI (tN v6 L p) = nI x := fun x y hx e1 e2 r => e2 (by rw [← e1]; exact (c x hx).mp r)
  have N98 : tN v6 L p ≠ 98 → ¬ nI (tN v6 L p) = 98 := fun h r => h ((c 98 (by omega)).mp r)
  have N108 : tN v6 L p ≠ 108 → ¬ nI (tN v6 L p) = 108 := fun h r => h ((c 108 (by omega)).mp r)
  have N109 : tN v6 L p ≠ 109 → ¬ nI (tN v6 L p) = 109 := fun h r => h ((c 109 (by omega)).mp r)
  have N110 : tN v6 L p ≠ 110 → ¬ nI (tN v6 L p) = 110 := fun h r => h ((c 110 (by omega)).mp r)
  have N114 : tN v6 L p ≠ 114 → ¬ nI (tN v6 L p) = 114 := fun h r => h ((c 114 (by omega)).mp r)
  have Y98 : tN v6 L p = 98 → nI (tN v6 L p) = 98 := fun h => (c 98 (by omega)).mpr h
  have Y108 : tN v6 L p = 108 → nI (tN v6 L p) = 108 := fun h => (c 108 (by omega)).mpr h
  have Y109 : tN v6 L p = 109 → nI (tN v6 L p) = 109 := fun h => (c 109 (by omega)).mpr h
  have Y110 : tN v6 L p = 110 → nI (tN v6 L p) = 110 := fun h => (c 110 (by omega)).mpr h
  have Y114 : tN v6 L p = 114 → nI (tN v6 L p) = 114 := fun h => (c 114 (by omega)).mpr h
  have Y116 : tN v6 L p = 116 → nI (tN v6 L p) = 116 := fun h => (c 116 (by omega)).mpr h
  rcases hA with hk | ⟨hk, X, n1, w14, hX⟩ | ⟨hk, C, X, n1, w14, hC, n2, hl, hrb⟩
  · have eM : f5_does_0 w v1 v7 v8 = if 8 ≤ v1 162 then (f5_does_74 w 0 v1 v7 v8) else (f5_does_74 w 1 v1 v7 v8) := by
      unfold f5_does_0
      rw [h13, if_neg (N98 (by omega)), if_neg (N108 (by omega)), if_neg (N109 (by omega)), if_pos (Y110 hk), gdm162, cl162]
    have eC : f4_perform_0 (nI p) (nI q) mu = Option.bind (f3_addCar_0 v1) (fun t12 => if t12.1 = ((-1)) then (f4_perform_31 0 (s1 mu 0 t12.2)) else (f4_perform_31 1 (s1 mu 0 t12.2))) := by
      unfold f4_perform_0
      rw [ss, ob, if_pos (Y110 hk), h1]
    by_cases h8 : N = 8
    · subst h8
      refine ⟨0, s1 mu 0 v1, v1, v7, v8, ?_, ?_, ?_, s1_12 (by omega), Or.inl rfl⟩
      · rw [eC, ad_8 hw, ob]
        exact (if_pos rfl).trans (pf_r 0 (Or.inl rfl) _).1
      · rw [eM, if_pos (by rw [hw]; decide)]
        exact (if_pos rfl).trans (dz_87 0 (-1) (Or.inl rfl) w v1 v7 v8).1
      · rw [← h1, s1_same]
        exact h1 ▸ hR
    · obtain ⟨w', a1, a2, a3, a4⟩ := ad_s hI (by omega) hw
      refine ⟨1, s1 mu 0 w', w', v7, v8, ?_, ?_, rel_s hR a3, s1_12 (by omega), Or.inr rfl⟩
      · rw [eC, a1, ob]
        exact (if_neg (nI_m1 (show N < 2 ^ 31 by omega))).trans (pf_r 1 (Or.inr rfl) _).1
      · rw [eM, if_neg (by rw [hw, show (8 : Int32) = nI 8 from rfl, n_le (by omega) (by omega)]; omega)]
        unfold f5_does_74
        rw [if_neg n10, a2, ob]
        exact (dz_87 1 (nI N) (Or.inr rfl) w w' v7 v8).1
  · obtain ⟨w', a2, a7, a8, e1, e2, e3, e4⟩ := ts_s (v2 := mu (0 + 20)) (v7 := v7) (v8 := v8) hI hN hw (show X < 999 by omega)
    refine ⟨1, s1 (s1 mu (0 + 20) a2) 0 w', w', a7, a8, ?_, ?_, rel_s (rel_m hR (by omega)) e3, (s1_12 (by omega)).trans (s1_12 (by omega)), Or.inr rfl⟩
    · unfold f4_perform_0
      rw [ss, ob, if_neg (N110 (by omega)), if_pos (Y116 hk), ad_1, n1, ob, h1, e1, ob]
    · unfold f5_does_0
      rw [h13, if_neg (N98 (by omega)), if_neg (N108 (by omega)), if_neg (N109 (by omega)), if_neg (N110 (by omega)), if_neg (N114 (by omega)), w14, e2, ob]
  · have eP := pfS hT hp hk n1 n2 hN hw0 hC
    by_cases hc : C < N
    · rw [if_pos hc] at eP
      have ic : f5_isCar_0 v1 (nI C) = some 1 := by rw [isCar_s hN hw, b01_t (k_car hN hc)]
      have fin1 : ∀ mu', (Option.bind (some ((1 : Int32), mu')) (fun t8 => if t8.1 = 0 then (f4_perform_110 t8.2) else (f4_perform_111 1 t8.2))) = some (1, mu') := fun mu' => by
        show (if (1 : Int32) = 0 then f4_perform_110 mu' else f4_perform_111 1 mu') = _
        rw [if_neg n10]
        exact (pf_r 1 (Or.inr rfl) _).2.1
      have fin0 : ∀ mu', (Option.bind (some ((0 : Int32), mu')) (fun t8 => if t8.1 = 0 then (f4_perform_110 t8.2) else (f4_perform_111 1 t8.2))) = some (0, mu') := fun mu' => by
        show (if (0 : Int32) = 0 then f4_perform_110 mu' else f4_perform_111 1 mu') = _
        rw [if_pos rfl]
        exact pf_n _
      rcases hk with hk | hk | hk | hk
      · obtain ⟨w15, x1, x2⟩ := hl hk
        have hx : (1 : Int32) ≤ nI X ∧ nI X ≤ 20 := ⟨(n_le (a := 1) (by omega) (by omega)).mpr x1, (n_le (b := 20) (by omega) (by omega)).mpr x2⟩
        have eM : f5_does_0 w v1 v7 v8 = Option.bind (some (if v1 (90 + 9 * C + 0) = 0 ∧ ¬ 20 < v1 (90 + 9 * C + 1) + nI X then (0 : Int32) else 3)) (fun t5 => if t5 = 0 then (f5_does_110 w 1 v1 v7 v8) else (f5_does_110 w 0 v1 v7 v8)) := by
          unfold f5_does_0
          rw [h13, if_neg (N98 (by omega)), if_pos (Y108 hk), w14, w15, bl_s hN hw hc hx]
        have eC : f4_performOn_0 (nI C) (nI (tN v6 L p)) (nI X) mu = Option.bind (some (b01 (v1 (90 + 9 * C + 0) = 0 ∧ ¬ 20 < v1 (90 + 9 * C + 1) + nI X))) (fun t4 => if t4 = 0 then (f4_performOn_77 (nI C) (nI (tN v6 L p)) (nI X) mu) else (Option.bind (f3_addOre_0 (nI C) (nI X) v1) (fun t6 => some (1, s1 mu 0 t6.2)))) := by
          unfold f4_performOn_0
          rw [if_neg (N114 (by omega)), if_neg (N109 (by omega)), if_pos (Y108 hk), h1, can_s hN hw hc]
        by_cases hq : v1 (90 + 9 * C + 0) = 0 ∧ ¬ 20 < v1 (90 + 9 * C + 1) + nI X
        · obtain ⟨r, w', a1, a2, a3, a4⟩ := lo_s hI (by omega) (ore_ok (inv_c hI (c := C) (by omega)).2.1 hx hq.2)
          refine ⟨1, s1 mu 0 w', w', v7, v8, ?_, ?_, rel_s hR a3, s1_12 (by omega), Or.inr rfl⟩
          · rw [eP, eC, b01_t hq, ob, if_neg n10, a1]
            exact fin1 _
          · rw [eM, if_pos hq, ob, if_pos rfl]
            unfold f5_does_110
            rw [if_neg n10, w14, w15, a2, ob]
            exact (dz_87 1 r (Or.inr rfl) w w' v7 v8).2.1
        · refine ⟨0, mu, v1, v7, v8, ?_, ?_, hR, rfl, Or.inl rfl⟩
          · rw [eP, eC, b01_f hq, ob, if_pos rfl]
            unfold f4_performOn_77 f4_performOn_106
            rw [if_neg (N98 (by omega))]
            exact fin0 _
          · rw [eM, if_neg hq, ob, if_neg n30]
            exact (if_pos rfl).trans (dz_87 0 (-1) (Or.inl rfl) w v1 v7 v8).2.1
      · obtain ⟨w15, x2⟩ := hrb (Or.inl hk)
        obtain ⟨r, w', a1, a2, a3, a4⟩ := lr_s (x := nI X) hI hN hw hc (sml_n (by omega))
        have eM : f5_does_0 w v1 v7 v8 = if r = 0 then (f5_does_166 w 1 w' v7 v8) else (f5_does_165 w w' v7 v8) := by
          unfold f5_does_0
          rw [h13, if_neg (N98 (by omega)), if_neg (N108 (by omega)), if_neg (N109 (by omega)), if_neg (N110 (by omega)), if_pos (Y114 hk), w14, w15, ic, ob, if_neg n10, a2, ob]
        have eC : f4_performOn_0 (nI C) (nI (tN v6 L p)) (nI X) mu = if r = 0 then (f4_performOn_23 1 (s1 mu 0 w')) else (f4_performOn_23 0 (s1 mu 0 w')) := by
          unfold f4_performOn_0
          rw [if_pos (Y114 hk), h1, a1, ob]
        by_cases hr : r = 0
        · refine ⟨1, s1 mu 0 w', w', v7, v8, ?_, ?_, rel_s hR a3, s1_12 (by omega), Or.inr rfl⟩
          · rw [eP, eC, if_pos hr, (pf_r 1 (Or.inr rfl) _).2.2.1]
            exact fin1 _
          · rw [eM, if_pos hr]
            exact (dz_87 1 0 (Or.inr rfl) w w' v7 v8).2.2.2.2.1
        · refine ⟨0, s1 mu 0 w', w', v7, v8, ?_, ?_, rel_s hR a3, s1_12 (by omega), Or.inl rfl⟩
          · rw [eP, eC, if_neg hr, (pf_r 0 (Or.inl rfl) _).2.2.1]
            exact fin0 _
          · rw [eM, if_neg hr]
            exact (dz_87 0 0 (Or.inl rfl) w w' v7 v8).2.2.2.2.2.2
      · obtain ⟨w15, x2⟩ := hrb (Or.inr hk)
        have hx : (0 : Int32) ≤ nI X ∧ nI X ≤ 9 := ⟨(n_le (a := 0) (by omega) (by omega)).mpr (by omega), (n_le (b := 9) (by omega) (by omega)).mpr x2⟩
        have eB : f5_barBrake_0 v1 (nI C) (nI X) = some (if v1 (90 + 9 * C + 0) = 1 then (0 : Int32) else 3) := by
          unfold f5_barBrake_0 f5_barBrake_37
          rw [ic, ob, if_neg n10, ibr_s, b01_t hx, ob, if_neg n10, isIn_o (by omega), ob]
          by_cases hr : v1 (90 + 9 * C + 0) = 1
          · rw [b01_t hr, if_neg n10, if_pos hr]
          · rw [b01_f hr, if_pos rfl, if_neg hr]
        have eM : f5_does_0 w v1 v7 v8 = Option.bind (some (if v1 (90 + 9 * C + 0) = 1 then (0 : Int32) else 3)) (fun t2 => if t2 = 0 then (f5_does_187 w 1 v1 v7 v8) else (f5_does_187 w 0 v1 v7 v8)) := by
          unfold f5_does_0
          rw [h13, if_pos (Y98 hk), w14, w15, eB]
        have eC : f4_performOn_0 (nI C) (nI (tN v6 L p)) (nI X) mu = Option.bind (some (b01 (v1 (90 + 9 * C + 0) = 1))) (fun t2 => if t2 = 0 then (f4_performOn_106 mu) else (Option.bind (f3_changeBrake_0 (nI C) (nI X) v1) (fun t4 => some (1, s1 mu 0 t4.2)))) := by
          unfold f4_performOn_0 f4_performOn_77
          rw [if_neg (N114 (by omega)), if_neg (N109 (by omega)), if_neg (N108 (by omega)), if_pos (Y98 hk), h1, ro_s hN hw hc]
        by_cases hr : v1 (90 + 9 * C + 0) = 1
        · obtain ⟨r, w', a1, a2, a3, a4⟩ := cb_s (x := nI X) hI (show C < 8 by omega) (sml_n (by omega))
          refine ⟨1, s1 mu 0 w', w', v7, v8, ?_, ?_, rel_s hR a3, s1_12 (by omega), Or.inr rfl⟩
          · rw [eP, eC, b01_t hr, ob, if_neg n10, a1]
            exact fin1 _
          · rw [eM, if_pos hr, ob, if_pos rfl]
            unfold f5_does_187
            rw [if_neg n10, w14, w15, a2, ob]
            exact (dz_87 1 r (Or.inr rfl) w w' v7 v8).2.2.1
        · refine ⟨0, mu, v1, v7, v8, ?_, ?_, hR, rfl, Or.inl rfl⟩
          · rw [eP, eC, b01_f hr, ob, if_pos rfl]
            exact fin0 _
          · rw [eM, if_neg hr, ob, if_neg n30]
            exact (if_pos rfl).trans (dz_87 0 (-1) (Or.inl rfl) w v1 v7 v8).2.2.1
      · obtain ⟨r, w', a1, a2, a3, a4⟩ := hm_s hI hN hw hc
        have eM : f5_does_0 w v1 v7 v8 = if r = 0 then (f5_does_242 w 1 w' v7 v8) else (f5_does_241 w w' v7 v8) := by
          unfold f5_does_0
          rw [h13, if_neg (N98 (by omega)), if_neg (N108 (by omega)), if_pos (Y109 hk), w14, ic, ob, if_neg n10, a2, ob]
        have eC : f4_performOn_0 (nI C) (nI (tN v6 L p)) (nI X) mu = if r = 0 then (f4_performOn_46 1 (s1 mu 0 w')) else (f4_performOn_46 0 (s1 mu 0 w')) := by
          unfold f4_performOn_0
          rw [if_neg (N114 (by omega)), if_pos (Y109 hk), h1, a1, ob]
        by_cases hr : r = 0
        · refine ⟨1, s1 mu 0 w', w', v7, v8, ?_, ?_, rel_s hR a3, s1_12 (by omega), Or.inr rfl⟩
          · rw [eP, eC, if_pos hr, (pf_r 1 (Or.inr rfl) _).2.2.2]
            exact fin1 _
          · rw [eM, if_pos hr]
            exact (dz_87 1 0 (Or.inr rfl) w w' v7 v8).2.2.2.1
        · refine ⟨0, s1 mu 0 w', w', v7, v8, ?_, ?_, rel_s hR a3, s1_12 (by omega), Or.inl rfl⟩
          · rw [eP, eC, if_neg hr, (pf_r 0 (Or.inl rfl) _).2.2.2]
            exact fin0 _
          · rw [eM, if_neg hr]
            exact (dz_87 0 0 (Or.inl rfl) w w' v7 v8).2.2.2.2.2.1
    · have hnc : ¬ (0 ≤ nI C ∧ nI C < nI N) := fun r => hc ((n_lt (by omega) (by omega)).mp r.2)
      have ic : f5_isCar_0 v1 (nI C) = some 0 := by rw [isCar_s hN hw, b01_f hnc]
      rw [if_neg hc] at eP
      refine ⟨0, mu, v1, v7, v8, eP, ?_, hR, rfl, Or.inl rfl⟩
      unfold f5_does_0
      rw [h13, w14]
      rcases hk with hk | hk | hk | hk
      · rw [if_neg (N98 (by omega)), if_pos (Y108 hk)]
        unfold f5_barLoad_0 f5_barLoad_57
        rw [ic, ob, if_pos rfl, ob, if_neg n10]
        exact (if_pos rfl).trans (dz_87 0 (-1) (Or.inl rfl) w v1 v7 v8).2.1
      · rw [if_neg (N98 (by omega)), if_neg (N108 (by omega)), if_neg (N109 (by omega)), if_neg (N110 (by omega)), if_pos (Y114 hk), ic, ob, if_pos rfl]
        exact (dz_87 0 0 (Or.inl rfl) w v1 v7 v8).2.2.2.2.2.2
      · rw [if_pos (Y98 hk)]
        unfold f5_barBrake_0 f5_barBrake_37
        rw [ic, ob, if_pos rfl, ob, if_neg n10]
        exact (if_pos rfl).trans (dz_87 0 (-1) (Or.inl rfl) w v1 v7 v8).2.2.1
      · rw [if_neg (N98 (by omega)), if_neg (N108 (by omega)), if_pos (Y109 hk), ic, ob, if_pos rfl]
        exact (dz_87 0 0 (Or.inl rfl) w v1 v7 v8).2.2.2.2.2.1
