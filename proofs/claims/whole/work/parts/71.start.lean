set_option maxHeartbeats 8000000 in
set_option maxRecDepth 100000 in
/-- the law, from its entry -/
theorem whole_start {p : Program} {e : Env} {s : State} {m : MethodId} {below : List Frame} {meth : Method} {c : Code} (l : Launch) (hflags : l.flags = flags0) {b L : Nat} {xs : Nat → Int32} (hL : L ≤ 2048) (C0 : lw_At p s m meth c b L xs) : W p l e room_1 s m #[Value.ref b] below meth c s.heap [] 0 0 (lw_Z below #[Value.ref b] s) (entryFrame m ([Value.ref b] : List Value).toArray 9) := by
  obtain ⟨hx, hb, hr, hml, hown, htt, hX, hbl, hlk, hgv⟩ := id C0
  obtain ⟨hz, hn0, hnx⟩ := zx_0 htt hgv
  have hts : ∀ w ∈ gw, w.before #[Value.ref b] s = true := fun w h => htt w (gw_tbl w h)
  have hl0 : l.stackTraces = false := by
    unfold Launch.stackTraces
    rw [hflags]
    decide +kernel
  have S : CallFix p m c cL_law 9 s #[Value.ref b] gw RL := ⟨hx, hb, hml, hown, hts⟩
  obtain ⟨d0, i0, k0⟩ := u_known (C := RX0) (T := TX0) (N := 9) (n := 9) hts inlX0 (hts _ gx_RX0)
  obtain ⟨d1, i1, k1⟩ := u_known (C := RX1) (T := TX1) (N := 3) (n := 3) hts inlX1 (hts _ gx_RX1)
  obtain ⟨d2, i2, k2⟩ := u_known (C := RX2) (T := TX2) (N := 2) (n := 2) hts inlX2 (hts _ gx_RX2)
  obtain ⟨d3, i3, k3⟩ := u_known (C := RX3) (T := TX3) (N := 12) (n := 12) hts inlX3 (hts _ gx_RX3)
  obtain ⟨d4, i4, k4⟩ := u_known (C := RX4) (T := TX4) (N := 6) (n := 6) hts inlX4 (hts _ gx_RX4)
  obtain ⟨d5, i5, k5⟩ := u_known (C := RX5) (T := TX5) (N := 16) (n := 16) hts inlX5 (hts _ gx_RX5)
  obtain ⟨D, hKc⟩ : ∃ D : va_G, ∀ (k : Nat) (q : vw_C), vwCl[k]? = some q → u_Kn s q.1 q.2.1 q.2.2 (D.1 k) (D.2 k) := by
    refine ⟨(fun k => if k = 0 then d0 else if k = 1 then d1 else if k = 2 then d2 else if k = 3 then d3 else if k = 4 then d4 else d5, fun k => if k = 0 then i0 else if k = 1 then i1 else if k = 2 then i2 else if k = 3 then i3 else if k = 4 then i4 else i5), ?_⟩
    intro k q hq
    match k, hq with
    | 0, hq => cases hq; exact k0
    | 1, hq => cases hq; exact k1
    | 2, hq => cases hq; exact k2
    | 3, hq => cases hq; exact k3
    | 4, hq => cases hq; exact k4
    | 5, hq => cases hq; exact k5
    | k + 6, hq => cases hq
  obtain ⟨cI, aI1, aI2⟩ := ak_p (hts _ ga_int)
  obtain ⟨cC, aC1, aC2⟩ := ak_p (hts _ ga_char)
  obtain ⟨cZ, aZ1, aZ2⟩ := ak_p (hts _ ga_boolean)
  obtain ⟨cL, aL1, aL2⟩ := ak_p (hts _ ga_long)
  obtain ⟨cA, aA1, aA2⟩ := ak_q (htt _ go_RX0)
  obtain ⟨cB, aB1, aB2⟩ := ak_q (htt _ go_RX3)
  obtain ⟨Y, hY⟩ : ∃ Y : cYt, Y = (cI, cC, cZ, cA, cB) := ⟨_, rfl⟩
  have hK : va_K D vwCl (cTys Y) s := by
    subst hY
    refine ⟨hKc, fun k q hq => ?_⟩
    match k, hq with
    | 0, hq => cases hq; exact ⟨aI1, aI2⟩
    | 1, hq => cases hq; exact ⟨aC1, aC2⟩
    | 2, hq => cases hq; exact ⟨aZ1, aZ2⟩
    | 3, hq => cases hq; exact ⟨aA1, aA2⟩
    | 4, hq => cases hq; exact ⟨aB1, aB2⟩
    | k + 5, hq => cases hq
  have hKm : va_K D vwCl (mTys cI cZ) s := by
    refine ⟨hKc, fun k q hq => ?_⟩
    match k, hq with
    | 0, hq => cases hq; exact ⟨aI1, aI2⟩
    | 1, hq => cases hq; exact ⟨aZ1, aZ2⟩
    | k + 2, hq => cases hq
  have hKo : va_K D vwCl [(cL, .long)] s := by
    refine ⟨hKc, fun k q hq => ?_⟩
    match k, hq with
    | 0, hq => cases hq; exact ⟨aL1, aL2⟩
    | k + 1, hq => cases hq
  obtain ⟨n, hn⟩ : ∃ n, n = s.heap.size := ⟨_, rfl⟩
  have hH : bH D (fun _ => .inr (0, [])) n 0 s s.heap [] := ⟨⟨hn.symm, fun r h => absurd h (Nat.not_lt_zero r)⟩, va_S.rf⟩
  have hl := lv_entry ([.ref b]) (n := 9) (Nat.le_of_ble_eq_true rfl)
  rw [lg_entry_eq]
  generalize (lg_sl ([.ref b]) ++ List.replicate (9 - (lg_sl ([.ref b])).length) Slot.unset).toArray = ls at hl ⊢
  have hl : lv_has ls 9 [(0, .ref b)] := hl
  refine b_new hx hb hts inlX4 tyX4 tyX4_ok hown (hts _ gclL_8) (hts _ gx_RX4) (hts _ gi_RX4) hK hH (ci := 4) rfl dfX4 (Nat.le_of_ble_eq_true rfl) (Nat.le_of_ble_eq_true rfl) dL_law_0 (fun H hH => ?_)
  refine lv_dup hx hb dL_law_3 rfl ?_
  refine b_join (va_runI (As := []) (rest := [.ref (n + 0)]) S (ci_X4 l (n + 0)) (cwI 0 hts (gw_C gc_X4_init) rfl rfl rfl (hts _ gi_RX4) (hts _ gmL_89) (hts _ gn_X4_init) rfl (by decide +kernel) ⟨Nat.le_of_ble_eq_true rfl, Nat.le_of_ble_eq_true rfl⟩) ⟨preI_bl, fun U hU hW => ⟨rfl, by rw [hU]; exact hH.1.1, by rw [hU]; exact hH.1.2 0 (by omega), va_K.moved hW.alike hK, nx_w hW hnx⟩⟩ rfl rfl hl.1 rfl (lv_room (Nat.le_of_ble_eq_true rfl)) dL_law_4 ⟨Nat.le_of_ble_eq_true rfl, Nat.le_of_ble_eq_true rfl⟩) hH (fun H locs hH => ?_)
  refine lv_astore_n (lv' := [(1, .ref (n + 0)), (0, .ref b)]) hx hb dL_law_7 rfl hl (by decide) rfl (fun ls hl => ?_)
  refine b_new hx hb hts inlX5 tyX5 tyX5_ok hown (hts _ gclL_90) (hts _ gx_RX5) (hts _ gi_RX5) hKm hH (ci := 5) rfl dfX5 (Nat.le_of_ble_eq_true rfl) (Nat.le_of_ble_eq_true rfl) dL_law_8 (fun H hH => ?_)
  refine lv_dup hx hb dL_law_11 rfl ?_
  refine b_join (va_runI (As := []) (rest := [.ref (n + 157)]) S (ci_X5 l (n + 157)) (cwI 0 hts (gw_C gc_X5_init) rfl rfl rfl (hts _ gi_RX5) (hts _ gmL_92) (hts _ gn_X5_init) rfl (by decide +kernel) ⟨Nat.le_of_ble_eq_true rfl, Nat.le_of_ble_eq_true rfl⟩) ⟨preI_bl, fun U hU hW => ⟨rfl, by rw [hU]; exact hH.1.1, by rw [hU]; exact hH.1.2 157 (by omega), va_K.moved hW.alike hKm, nx_w hW hnx⟩⟩ rfl rfl hl.1 rfl (lv_room (Nat.le_of_ble_eq_true rfl)) dL_law_12 ⟨Nat.le_of_ble_eq_true rfl, Nat.le_of_ble_eq_true rfl⟩) hH (fun H locs hH => ?_)
  refine lv_astore_n (lv' := [(2, .ref (n + 157)), (1, .ref (n + 0)), (0, .ref b)]) hx hb dL_law_15 rfl hl (by decide) rfl (fun ls hl => ?_)
  refine lv_iconst (v := 1) hx hb dL_law_16 (by decide) ?_
  refine b_newa (atype := .long) (ty := .long) hx hb (hts _ ga_long) rfl aL2 hH (a0 := (1, .inr (.inl (fun _ => 0)))) (N := 1) (fun _ => rfl) (by decide) (by decide) (Nat.le_of_ble_eq_true rfl) (Nat.le_of_ble_eq_true rfl) (Nat.le_of_ble_eq_true rfl) dL_law_17 (fun H hH => ?_)
  refine lv_astore_n (lv' := [(3, .ref (n + 166)), (2, .ref (n + 157)), (1, .ref (n + 0)), (0, .ref b)]) hx hb dL_law_19 rfl hl (by decide) rfl (fun ls hl => ?_)
  refine lv_iconst (v := 0) hx hb dL_law_20 (by decide) ?_
  refine lv_istore (lv' := [(4, .int 0), (3, .ref (n + 166)), (2, .ref (n + 157)), (1, .ref (n + 0)), (0, .ref b)]) hx hb dL_law_21 hl (by decide) rfl (fun ls hl => ?_)
  obtain ⟨⟨hsz, hat⟩, hS⟩ := hH
  have hP : ∀ r, r < 157 → va_at D vwCl (n + r, cwE Y (ad0 n) mu0 (inv r)) H := fun r hr => by
    have h1 := hat r (by omega)
    rw [eu_n (by omega), ej_l (by omega), eu_n (by omega), ej_h (by omega)] at h1
    exact h1
  have hM : ∀ j x, j < 9 → (lE [.inr (5, mFs (fun j => n + 157 + j) (fun _ => 0)), .inl (cI, 171, .inl s0), .inl (cI, 171, .inl (fun _ => 0)), .inl (cI, 1026, .inl (fun _ => 0)), .inl (cI, 342, .inl (fun _ => 0)), .inl (cZ, 2, .inl (fun _ => 0)), .inl (cI, 60, .inl (fun _ => 0)), .inl (cI, 8, .inl (fun _ => 0)), .inl (cZ, 8, .inl (fun _ => 0))]) j = x → va_at D vwCl (n + 157 + j, x) H := fun j x hj hx => by
    have h1 := hat (157 + j) (by omega)
    rw [eu_n (by omega), ej_h (by omega), show 157 + j - (0 + 157) = j by omega, show n + (157 + j) = n + 157 + j by omega] at h1
    rw [← hx]
    exact h1
  have hO : va_at D vwCl (n + 166, .inl (cL, 1, .inr (.inl (fun _ => 0)))) H := hat 166 (by omega)
  have F : lF D Y cI cZ cL (ad0 n) (fun j => n + 157 + j) (n + 166) p l s m #[Value.ref b] c := by
    refine ⟨S, hl0, ⟨fun i j hi hj h => pos_inj hi hj (by unfold ad0 at h; omega), fun i j hi hj h => by dsimp only at h; omega, fun i j hi hj h => ?_, fun i hi h => ?_, fun j hj h => by dsimp only at h; omega⟩, ⟨fun i hi => by unfold ad0; omega, fun j hj => by dsimp only; omega, by omega⟩, ⟨hK, hKm, hKo⟩, hz, hn0⟩
    · have := pos_lt hi
      unfold ad0 at h
      dsimp only at h
      omega
    · have := pos_lt hi
      unfold ad0 at h
      omega
  have hLH : lH D Y cI cZ cL (ad0 n) (fun j => n + 157 + j) (n + 166) mu0 (fun _ => 0) (fun _ => 0) s0 (fun _ => 0) (fun _ => 0) (fun _ => 0) (fun _ => 0) (fun _ => 0) (fun _ => 0) (fun _ => 0) s H locs := by
    refine ⟨fun k q hq => ?_, fun k q hq => ?_, fun k q hq => ?_, ?_⟩
    · by_cases hk : k < 157
      · rw [cw_at hk] at hq
        cases hq
        have h1 := hP (pos k) (pos_lt hk)
        rw [inv_pos hk] at h1
        exact h1
      · unfold cwW at hq
        rw [List.getElem?_eq_none (by rw [List.length_map, List.length_range]; omega)] at hq
        cases hq
    · match k, hq with
      | 0, hq => cases hq; exact hM 0 _ (by omega) rfl
      | 1, hq => cases hq; exact hM 1 _ (by omega) rfl
      | 2, hq => cases hq; exact hM 2 _ (by omega) rfl
      | 3, hq => cases hq; exact hM 3 _ (by omega) rfl
      | 4, hq => cases hq; exact hM 4 _ (by omega) rfl
      | 5, hq => cases hq; exact hM 5 _ (by omega) rfl
      | 6, hq => cases hq; exact hM 6 _ (by omega) rfl
      | 7, hq => cases hq; exact hM 7 _ (by omega) rfl
      | 8, hq => cases hq; exact hM 8 _ (by omega) rfl
      | k + 9, hq => cases hq
    · cases k with
      | zero => cases hq; exact hO
      | succ k => cases hq
    · rw [← hn]
      exact hn ▸ hS
  exact law_loop F hX hbl hr hlk hL L 0 _ _ (by omega) (by omega) (by omega) (by omega) mu0 _ _ s0 _ _ _ _ _ _ _ H locs ls hLH rel_0 (lv_sub hl [4, 3, 2, 1, 0] rfl)
