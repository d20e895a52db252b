set_option maxHeartbeats 8000000 in
set_option maxRecDepth 100000 in
/-- the law, from its entry -/
theorem whole_start {p : Program} {e : Env} {s : State} {m : MethodId} {below : List Frame} {meth : Method} {c : Code} (l : Launch) (hflags : l.flags = flags0) {b L : Nat} {xs : Nat → Int32} (hL : L ≤ 260) (C0 : lw_At p s m meth c b L xs) : W p l e room_1 s m #[Value.ref b] below meth c s.heap [] 0 0 (lw_Z below #[Value.ref b] s) (entryFrame m ([Value.ref b] : List Value).toArray 8) := by
  obtain ⟨hx, hb, hr, hml, hown, htt, hXs, hbl, hlk, hgv⟩ := id C0
  obtain ⟨hz, hn0, hnx⟩ := zx_0 htt hgv
  have hts : ∀ w ∈ gw, w.before #[Value.ref b] s = true := fun w h => htt w (gw_tbl w h)
  have hl0 : l.stackTraces = false := by
    unfold Launch.stackTraces
    rw [hflags]
    decide +kernel
  have S : CallFix p m c cL_law 8 s #[Value.ref b] gw RL := ⟨hx, hb, hml, hown, hts⟩
  obtain ⟨d0, i0, k0⟩ := u_known (C := RX0) (T := TX0) (N := 9) (n := 9) hts inlX0 (hts _ gx_RX0)
  obtain ⟨d1, i1, k1⟩ := u_known (C := RX1) (T := TX1) (N := 3) (n := 3) hts inlX1 (hts _ gx_RX1)
  obtain ⟨d2', i2, k2⟩ := u_known (C := RX2) (T := TX2) (N := 2) (n := 2) hts inlX2 (hts _ gx_RX2)
  obtain ⟨d3, i3, k3⟩ := u_known (C := RX3) (T := TX3) (N := 12) (n := 12) hts inlX3 (hts _ gx_RX3)
  obtain ⟨d4, i4, k4⟩ := u_known (C := RX4) (T := TX4) (N := 6) (n := 6) hts inlX4 (hts _ gx_RX4)
  obtain ⟨D, hKc⟩ : ∃ D : va_G, ∀ (k : Nat) (q : vw_C), vwCl[k]? = some q → u_Kn s q.1 q.2.1 q.2.2 (D.1 k) (D.2 k) := by
    refine ⟨(fun k => if k = 0 then d0 else if k = 1 then d1 else if k = 2 then d2' else if k = 3 then d3 else d4, fun k => if k = 0 then i0 else if k = 1 then i1 else if k = 2 then i2 else if k = 3 then i3 else i4), ?_⟩
    intro k q hq
    match k, hq with
    | 0, hq => cases hq; exact k0
    | 1, hq => cases hq; exact k1
    | 2, hq => cases hq; exact k2
    | 3, hq => cases hq; exact k3
    | 4, hq => cases hq; exact k4
    | k + 5, hq => cases hq
  obtain ⟨cI, aI1, aI2⟩ := ak_p (hts _ ga_int)
  obtain ⟨cC, aC1, aC2⟩ := ak_p (hts _ ga_char)
  obtain ⟨cZ, aZ1, aZ2⟩ := ak_p (hts _ ga_boolean)
  obtain ⟨cA, aA1, aA2⟩ := ak_q (htt _ go_RX0)
  obtain ⟨cB, aB1, aB2⟩ := ak_q (htt _ go_RX3)
  obtain ⟨Y, hY⟩ : ∃ Y : cYt, Y = (cI, cC, cZ, cA, cB) := ⟨_, rfl⟩
  have hK : va_K D vwCl (cTys Y) s := by
    subst hY
    refine ⟨hKc, fun k q hq => ?_⟩
    match k, hq with
    | 0, hq => cases hq; exact ⟨aI1, aI2⟩
    | 1, hq => cases hq; exact ⟨aC1, aC2⟩
    | 2, hq => cases hq; exact ⟨aZ1, aZ2⟩
    | 3, hq => cases hq; exact ⟨aA1, aA2⟩
    | 4, hq => cases hq; exact ⟨aB1, aB2⟩
    | k + 5, hq => cases hq
  obtain ⟨n, hn⟩ : ∃ n, n = s.heap.size := ⟨_, rfl⟩
  have hH : bH D (fun _ => .inr (0, [])) n 0 s s.heap [] := ⟨⟨hn.symm, fun r h => absurd h (Nat.not_lt_zero r)⟩, va_S.rf⟩
  have hl := lv_entry ([.ref b]) (n := 8) (Nat.le_of_ble_eq_true rfl)
  rw [lg_entry_eq]
  generalize (lg_sl ([.ref b]) ++ List.replicate (8 - (lg_sl ([.ref b])).length) Slot.unset).toArray = ls at hl ⊢
  have hl : lv_has ls 8 [(0, .ref b)] := hl
  refine b_new hx hb hts inlX4 tyX4 tyX4_ok hown (hts _ gclL_10) (hts _ gx_RX4) (hts _ gi_RX4) hK hH (ci := 4) rfl dfX4 (Nat.le_of_ble_eq_true rfl) (Nat.le_of_ble_eq_true rfl) dL_law_0 (fun H hH => ?_)
  refine lv_dup hx hb dL_law_3 rfl ?_
  refine b_join (va_runI (As := []) (rest := [.ref (n + 0)]) S (ci_X4 l (n + 0)) (cwI 0 hts (gw_C gc_X4_init) rfl rfl rfl (hts _ gi_RX4) (hts _ gmL_154) (hts _ gn_X4_init) rfl (by decide +kernel) ⟨Nat.le_of_ble_eq_true rfl, Nat.le_of_ble_eq_true rfl⟩) ⟨preI_bl, fun U hU hW => ⟨rfl, by rw [hU]; exact hH.1.1, by rw [hU]; exact hH.1.2 0 (by omega), va_K.moved hW.alike hK, nx_w hW hnx⟩⟩ rfl rfl hl.1 rfl (lv_room (Nat.le_of_ble_eq_true rfl)) dL_law_4 ⟨Nat.le_of_ble_eq_true rfl, Nat.le_of_ble_eq_true rfl⟩) hH (fun H locs hH => ?_)
  refine lv_astore_n (lv' := [(1, .ref (n + 0)), (0, .ref b)]) hx hb dL_law_7 rfl hl (by decide) rfl (fun ls hl => ?_)
  refine b_new hx hb hts inlX4 tyX4 tyX4_ok hown (hts _ gclL_10) (hts _ gx_RX4) (hts _ gi_RX4) hK hH (ci := 4) rfl dfX4 (Nat.le_of_ble_eq_true rfl) (Nat.le_of_ble_eq_true rfl) dL_law_8 (fun H hH => ?_)
  refine lv_dup hx hb dL_law_11 rfl ?_
  refine b_join (va_runI (As := []) (rest := [.ref (n + 157)]) S (ci_X4 l (n + 157)) (cwI 0 hts (gw_C gc_X4_init) rfl rfl rfl (hts _ gi_RX4) (hts _ gmL_154) (hts _ gn_X4_init) rfl (by decide +kernel) ⟨Nat.le_of_ble_eq_true rfl, Nat.le_of_ble_eq_true rfl⟩) ⟨preI_bl, fun U hU hW => ⟨rfl, by rw [hU]; exact hH.1.1, by rw [hU]; exact hH.1.2 157 (by omega), va_K.moved hW.alike hK, nx_w hW hnx⟩⟩ rfl rfl hl.1 rfl (lv_room (Nat.le_of_ble_eq_true rfl)) dL_law_12 ⟨Nat.le_of_ble_eq_true rfl, Nat.le_of_ble_eq_true rfl⟩) hH (fun H locs hH => ?_)
  refine lv_astore_n (lv' := [(2, .ref (n + 157)), (1, .ref (n + 0)), (0, .ref b)]) hx hb dL_law_15 rfl hl (by decide) rfl (fun ls hl => ?_)
  obtain ⟨⟨hsz, hat⟩, hS⟩ := hH
  have X : cX D Y p s m #[Value.ref b] meth c cL_law 8 RL ret := ⟨S, hr, hlk, hK⟩
  have hP : ∀ r, r < 157 → va_at D vwCl (n + r, cwE Y (ad0 n) mu0 (inv r)) H := fun r hr => by
    have h1 := hat r (by omega)
    rw [ej_l (by omega), eu_n (by omega), ej_h (by omega)] at h1
    exact h1
  have hM : ∀ r, r < 157 → va_at D vwCl (n + 157 + r, cwE Y (ad0 (n + 157)) mu0 (inv r)) H := fun r hr => by
    have h1 := hat (157 + r) (by omega)
    rw [ej_h (by omega), show 157 + r - 157 = r by omega, show n + (157 + r) = n + 157 + r by omega] at h1
    exact h1
  have hw : ∀ (z : Nat), (∀ r, r < 157 → va_at D vwCl (z + r, cwE Y (ad0 z) mu0 (inv r)) H) → va_P D vwCl (cwW Y (ad0 z) mu0) H := fun z hz k q hq => by
    by_cases hk : k < 157
    · rw [cw_at hk] at hq
      cases hq
      have h1 := hz (pos k) (pos_lt hk)
      rw [inv_pos hk] at h1
      exact h1
    · unfold cwW at hq
      rw [List.getElem?_eq_none (by rw [List.length_map, List.length_range]; omega)] at hq
      cases hq
  have hH : d2 D Y (lA s) (ad0 n) (ad0 (n + 157)) mu0 mu0 s H locs := ⟨hw n hP, hw (n + 157) hM, by unfold lA; rw [← hn]; exact hS⟩
  have Z : dZ (lA s) (ad0 n) (ad0 (n + 157)) s := by
    refine ⟨⟨hz, hn0⟩, ⟨fun i j hi hj h => pos_inj hi hj (by unfold ad0 at h; omega), fun i j hi hj h => pos_inj hi hj (by unfold ad0 at h; omega), fun i j hi hj h => ?_⟩, fun q h => h, fun i hi => by unfold lA ad0; omega, fun i hi => by unfold lA ad0; omega⟩
    have := pos_lt hi
    unfold ad0 at h
    omega
  have hl : lv_has ls 8 [(2, .ref (ad0 (n + 157) 150)), (1, .ref (ad0 n 150)), (0, .ref b)] := hl
  generalize ad0 n = ad at hH Z hl
  generalize ad0 (n + 157) = bd at hH Z hl
  generalize hcc : 0 + 1 + 156 + 1 + 156 = cells
  generalize hss : 0 + 6 + 2005 + 6 + 2005 = slots
  have e1 : f6_undo_0 mu0 = some (-2, mu0) := bd_s as_0 rfl
  have e2 : f6_goBack_0 0 mu0 = some (-3, mu0) := bo_s (t := 0) as_0 (by omega) rfl
  obtain ⟨mu1, e3, A1⟩ := lb_0
  obtain ⟨mu2, e4, A2⟩ := g_hangs A1 js_0 (by omega)
  refine lv_aload_n hx hb dL_law_16 rfl (lv_at hl 1 rfl) ?_
  refine ko (MC := 676661) (MS := 7071484) (As := [.ref (ad 150)]) (rest := []) ⟨rfl, rfl⟩ X Z hH (h6_undo l Z.2.1.1 hl0 _ e1) (vx_cwSW 1 hts qL_114 rfl rfl rfl (by decide +kernel) ⟨Nat.le_of_ble_eq_true rfl, Nat.le_of_ble_eq_true rfl⟩) rfl hl.1 rfl (Nat.le_of_ble_eq_true rfl) dL_law_17 ⟨by omega, by omega⟩ (fun H locs hH => ?_)
  refine lv_bipush (v := -2) hx hb dL_law_20 (by decide) ?_
  refine lv_icmp_ne (tgt := 61) hx hb dL_law_22 (by decide) (fun c1 => absurd rfl c1) (fun _ => ?_)
  refine lv_aload_n hx hb dL_law_25 rfl (lv_at hl 1 rfl) ?_
  refine lv_iconst (v := 0) hx hb dL_law_26 (by decide) ?_
  refine ko (MC := 676661) (MS := 7071484) (As := [.ref (ad 150), .int 0]) (rest := []) ⟨rfl, rfl⟩ X Z hH (h6_goBack l Z.2.1.1 hl0 _ 0 e2) (vx_cwSW 2 hts qL_118 rfl rfl rfl (by decide +kernel) ⟨Nat.le_of_ble_eq_true rfl, Nat.le_of_ble_eq_true rfl⟩) rfl hl.1 rfl (Nat.le_of_ble_eq_true rfl) dL_law_27 ⟨by omega, by omega⟩ (fun H locs hH => ?_)
  refine lv_bipush (v := -3) hx hb dL_law_30 (by decide) ?_
  refine lv_icmp_ne (tgt := 61) hx hb dL_law_32 (by decide) (fun c1 => absurd rfl c1) (fun _ => ?_)
  refine lv_aload_n hx hb dL_law_35 rfl (lv_at hl 1 rfl) ?_
  refine k4_firstError X hH.1 hl.1 qL_125 ⟨Nat.le_of_ble_eq_true rfl, Nat.le_of_ble_eq_true rfl⟩ fe_0 (Nat.le_of_ble_eq_true rfl) dL_law_36 (kc6 (MC := 676661) (MS := 7071484) ⟨rfl, rfl⟩ ⟨by omega, by omega⟩) ?_
  refine lv_if_ne (tgt := 61) hx hb dL_law_39 (by decide) (fun c1 => absurd rfl c1) (fun _ => ?_)
  refine lv_aload_n hx hb dL_law_42 rfl (lv_at hl 1 rfl) ?_
  refine lv_iconst (v := 0) hx hb dL_law_43 (by decide) ?_
  refine ko (MC := 676661) (MS := 7071484) (As := [.ref (ad 150), .int 0]) (rest := []) ⟨rfl, rfl⟩ X Z hH (h6_leastBrake l Z.2.1.1 hl0 _ 0 e3) (vx_cwSW 2 hts qL_152 rfl rfl rfl (by decide +kernel) ⟨Nat.le_of_ble_eq_true rfl, Nat.le_of_ble_eq_true rfl⟩) rfl hl.1 rfl (Nat.le_of_ble_eq_true rfl) dL_law_44 ⟨by omega, by omega⟩ (fun H locs hH => ?_)
  refine lv_if_ne (tgt := 61) hx hb dL_law_47 (by decide) (fun c1 => absurd rfl c1) (fun _ => ?_)
  refine lv_aload_n hx hb dL_law_50 rfl (lv_at hl 1 rfl) ?_
  refine kbo (MC := 676661) (MS := 7071484) (As := [.ref (ad 150)]) (rest := []) ⟨rfl, rfl⟩ X Z hH (c6_hangs l Z.2.1.1 hl0 _ e4) (va_cwS 1 hts qL_155 rfl rfl rfl (by decide +kernel) ⟨Nat.le_of_ble_eq_true rfl, Nat.le_of_ble_eq_true rfl⟩) rfl hl.1 rfl (Nat.le_of_ble_eq_true rfl) dL_law_51 ⟨by omega, by omega⟩ (fun H locs hH => ?_)
  refine lv_if_eq (tgt := 61) hx hb dL_law_54 (by decide) (fun c1 => absurd (show (1 : Int32) = 0 from c1) (by decide)) (fun _ => ?_)
  refine lv_iconst (v := 1) hx hb dL_law_57 (by decide) ?_
  refine lv_goto (tgt := 62) hx hb dL_law_58 (by decide) ?_
  refine lv_istore_n (lv' := [(3, .int 1), (2, .ref (bd 150)), (1, .ref (ad 150)), (0, .ref b)]) hx hb dL_law_62 rfl hl (by decide) rfl (fun ls hl => ?_)
  refine lv_iconst (v := 0) hx hb dL_law_63 (by decide) ?_
  refine lv_istore (lv' := [(4, .int (nI 0)), (3, .int 1), (2, .ref (bd 150)), (1, .ref (ad 150)), (0, .ref b)]) hx hb dL_law_64 hl (by decide) rfl (fun ls hl => ?_)
  exact law_66 X hl0 Z hL hXs hbl 34 0 _ _ mu2 mu0 S0 0 H locs ls rfl (by omega) (by omega) (by omega) A2 as_0 js_0 (by omega) hH (lv_sub hl [0, 4, 3, 2, 1] rfl)
