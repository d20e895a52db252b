set_option maxRecDepth 100000 in
set_option maxHeartbeats 8000000 in
theorem ci_X4 (l : Launch) {D : va_G} {Y : cYt} (n : Nat) : Met l yX4_init uX4_init rmi4 (va_Pc [.ref n] (preI D (cTys Y) n 4 [.null, .null, .null, .null, .null, .null])) (va_Qv (fun _ : Unit => True) (fun _ t9 => t9.heap.size = n + 157 ∧ ∀ r, r < 157 → va_at D vwCl (n + r, (fun r => cwE Y (ad0 n) mu0 (inv r)) r) t9.heap) (fun q => n ≤ q)) 156 2005 (fun q => n ≤ q) := by
  refine Met.ofW (cc := cX4_init) (maxL := 2) (ret := none) (by decide) rfl ?_
  intro p e s m args below meth c s₁ B hml hv
  obtain ⟨rfl, hsz, hat, hK, hnx⟩ := hv
  have hx := B.exec
  have hb := B.bytes
  have hr := B.returns
  have hlk := B.notSynchronized
  have hin2 : meth.name = "<init>" := (name_of_methodNamed B.named B.method).1
  have hown : s.vm.findClass RX4 = some m.cls := findClass_of_methodNamed B.named
  have hts : ∀ w ∈ gw, w.before ([.ref n] : List Value).toArray s = true := fun w h => atoms_spec (ws := uX4_init) B.pre w (List.mem_cons_of_mem _ h)
  have S : CallFix p m c cX4_init 2 s ([.ref n] : List Value).toArray gw RX4 := ⟨hx, hb, hml, hown, hts⟩
  have hl := lv_entry ([.ref n]) (n := 2) (Nat.le_of_ble_eq_true rfl)
  rw [lg_entry_eq]
  generalize (lg_sl ([.ref n]) ++ List.replicate (2 - (lg_sl ([.ref n])).length) Slot.unset).toArray = ls at hl ⊢
  have hl : lv_has ls 2 [(0, .ref n)] := hl
  have hH : bH D (fun _ => .inr (4, [.null, .null, .null, .null, .null, .null])) n 1 s s.heap [] := b_one hsz hat
  refine lv_aload_n hx hb dX4_init_0 rfl (lv_at hl 0 rfl) ?_
  refine W.objInit hx hb hown (hts _ gmX4_1) (hts _ gl_instanceMethod_objectInit) (hts _ gl_code_objectInit) rfl (hl.1.trans hml.symm) rfl dX4_init_1 (Nat.le_of_ble_eq_true rfl) (Nat.le_of_ble_eq_true rfl) ?_
  change W _ _ _ _ _ _ _ _ _ _ _ _ _ _ _ (F0 m 4 ls [])
  refine lv_aload_n hx hb dX4_init_4 rfl (lv_at hl 0 rfl) ?_
  refine b_new hx hb hts inlX3 tyX3 tyX3_ok hown (hts _ gclX4_7) (hts _ gx_RX3) (hts _ gi_RX3) hK hH (ci := 3) rfl dfX3 (Nat.le_of_ble_eq_true rfl) (Nat.le_of_ble_eq_true rfl) dX4_init_5 (fun H hH => ?_)
  refine lv_dup hx hb dX4_init_8 rfl ?_
  refine b_join (va_runI (As := []) (rest := [.ref (n + 1), .ref n]) S (ci_X3 l (n + 1)) (cwI 0 hts (gw_C gc_X3_init) rfl rfl rfl (hts _ gi_RX3) (hts _ gmX4_9) (hts _ gn_X3_init) rfl (by decide +kernel) ⟨Nat.le_of_ble_eq_true rfl, Nat.le_of_ble_eq_true rfl⟩) ⟨preI_bl, fun U hU hW => ⟨rfl, by rw [hU]; exact hH.1.1, by rw [hU]; exact hH.1.2 1 (by omega), va_K.moved hW.alike hK, nx_w hW hnx⟩⟩ rfl rfl hl.1 rfl (lv_room (Nat.le_of_ble_eq_true rfl)) dX4_init_9 ⟨Nat.le_of_ble_eq_true rfl, Nat.le_of_ble_eq_true rfl⟩) hH (fun H locs hH => ?_)
  refine b_putF hx hb hts inlX4 tyX4 tyX4_ok nmX4 hown hK hH 0 (by omega) (fs := [.null, .null, .null, .null, .null, .null]) rfl (ci := 4) rfl 0 (by omega) gfX4_10 rfl rfl hin2 (ty := tyX4 0) (tyX4_ok 0 (by omega)) rfl rfl (Nat.le_of_ble_eq_true rfl) dX4_init_12 (fun H locs hH => ?_)
  refine lv_aload_n hx hb dX4_init_15 rfl (lv_at hl 0 rfl) ?_
  refine b_new hx hb hts inlX3 tyX3 tyX3_ok hown (hts _ gclX4_7) (hts _ gx_RX3) (hts _ gi_RX3) hK hH (ci := 3) rfl dfX3 (Nat.le_of_ble_eq_true rfl) (Nat.le_of_ble_eq_true rfl) dX4_init_16 (fun H hH => ?_)
  refine lv_dup hx hb dX4_init_19 rfl ?_
  refine b_join (va_runI (As := []) (rest := [.ref (n + 16), .ref n]) S (ci_X3 l (n + 16)) (cwI 0 hts (gw_C gc_X3_init) rfl rfl rfl (hts _ gi_RX3) (hts _ gmX4_9) (hts _ gn_X3_init) rfl (by decide +kernel) ⟨Nat.le_of_ble_eq_true rfl, Nat.le_of_ble_eq_true rfl⟩) ⟨preI_bl, fun U hU hW => ⟨rfl, by rw [hU]; exact hH.1.1, by rw [hU]; exact hH.1.2 16 (by omega), va_K.moved hW.alike hK, nx_w hW hnx⟩⟩ rfl rfl hl.1 rfl (lv_room (Nat.le_of_ble_eq_true rfl)) dX4_init_20 ⟨Nat.le_of_ble_eq_true rfl, Nat.le_of_ble_eq_true rfl⟩) hH (fun H locs hH => ?_)
  refine b_putF hx hb hts inlX4 tyX4 tyX4_ok nmX4 hown hK hH 0 (by omega) (fs := [.ref (n + 1), .null, .null, .null, .null, .null]) rfl (ci := 4) rfl 1 (by omega) gfX4_16 rfl rfl hin2 (ty := tyX4 1) (tyX4_ok 1 (by omega)) rfl rfl (Nat.le_of_ble_eq_true rfl) dX4_init_23 (fun H locs hH => ?_)
  refine lv_aload_n hx hb dX4_init_26 rfl (lv_at hl 0 rfl) ?_
  refine b_new hx hb hts inlX1 tyX1 tyX1_ok hown (hts _ gclX4_19) (hts _ gx_RX1) (hts _ gi_RX1) hK hH (ci := 1) rfl dfX1 (Nat.le_of_ble_eq_true rfl) (Nat.le_of_ble_eq_true rfl) dX4_init_27 (fun H hH => ?_)
  refine lv_dup hx hb dX4_init_30 rfl ?_
  refine b_join (va_runI (As := []) (rest := [.ref (n + 31), .ref n]) S (ci_X1 l (n + 31)) (cwI 0 hts (gw_C gc_X1_init) rfl rfl rfl (hts _ gi_RX1) (hts _ gmX4_21) (hts _ gn_X1_init) rfl (by decide +kernel) ⟨Nat.le_of_ble_eq_true rfl, Nat.le_of_ble_eq_true rfl⟩) ⟨preI_bl, fun U hU hW => ⟨rfl, by rw [hU]; exact hH.1.1, by rw [hU]; exact hH.1.2 31 (by omega), va_K.moved hW.alike hK, nx_w hW hnx⟩⟩ rfl rfl hl.1 rfl (lv_room (Nat.le_of_ble_eq_true rfl)) dX4_init_31 ⟨Nat.le_of_ble_eq_true rfl, Nat.le_of_ble_eq_true rfl⟩) hH (fun H locs hH => ?_)
  refine b_putF hx hb hts inlX4 tyX4 tyX4_ok nmX4 hown hK hH 0 (by omega) (fs := [.ref (n + 1), .ref (n + 16), .null, .null, .null, .null]) rfl (ci := 4) rfl 2 (by omega) gfX4_22 rfl rfl hin2 (ty := tyX4 2) (tyX4_ok 2 (by omega)) rfl rfl (Nat.le_of_ble_eq_true rfl) dX4_init_34 (fun H locs hH => ?_)
  refine lv_aload_n hx hb dX4_init_37 rfl (lv_at hl 0 rfl) ?_
  refine lv_iconst (v := 2) hx hb dX4_init_38 (by decide) ?_
  refine b_newq hx hb hown (hts _ gclX4_7) hnx.2.2.2 (hK.2 4 _ rfl).2.choose_spec.choose_spec.2.2.2 hH (N := 2) (by decide) (by decide) (Nat.le_of_ble_eq_true rfl) (Nat.le_of_ble_eq_true rfl) (Nat.le_of_ble_eq_true rfl) dX4_init_39 (fun H hH => ?_)
  refine b_putF hx hb hts inlX4 tyX4 tyX4_ok nmX4 hown hK hH 0 (by omega) (fs := [.ref (n + 1), .ref (n + 16), .ref (n + 31), .null, .null, .null]) rfl (ci := 4) rfl 3 (by omega) gfX4_26 rfl rfl hin2 (ty := tyX4 3) (tyX4_ok 3 (by omega)) rfl rfl (Nat.le_of_ble_eq_true rfl) dX4_init_42 (fun H locs hH => ?_)
  refine lv_aload_n hx hb dX4_init_45 rfl (lv_at hl 0 rfl) ?_
  refine lv_iconst (v := 2) hx hb dX4_init_46 (by decide) ?_
  refine b_newa (atype := .boolean) (ty := .boolean) hx hb (hts _ ga_boolean) rfl (hK.2 2 _ rfl).2 hH (a0 := (2, .inl (fun _ => 0))) (N := 2) (fun _ => rfl) (by decide) (by decide) (Nat.le_of_ble_eq_true rfl) (Nat.le_of_ble_eq_true rfl) (Nat.le_of_ble_eq_true rfl) dX4_init_47 (fun H hH => ?_)
  refine b_putF hx hb hts inlX4 tyX4 tyX4_ok nmX4 hown hK hH 0 (by omega) (fs := [.ref (n + 1), .ref (n + 16), .ref (n + 31), .ref (n + 123), .null, .null]) rfl (ci := 4) rfl 4 (by omega) gfX4_30 rfl rfl hin2 (ty := tyX4 4) (tyX4_ok 4 (by omega)) rfl rfl (Nat.le_of_ble_eq_true rfl) dX4_init_49 (fun H locs hH => ?_)
  refine lv_aload_n hx hb dX4_init_52 rfl (lv_at hl 0 rfl) ?_
  refine b_new hx hb hts inlX2 tyX2 tyX2_ok hown (hts _ gclX4_34) (hts _ gx_RX2) (hts _ gi_RX2) hK hH (ci := 2) rfl dfX2 (Nat.le_of_ble_eq_true rfl) (Nat.le_of_ble_eq_true rfl) dX4_init_53 (fun H hH => ?_)
  refine lv_dup hx hb dX4_init_56 rfl ?_
  refine b_join (va_runIN (As := []) (rest := [.ref (n + 125), .ref n]) S (ci_X2 l (n + 125)) ⟨va_cnB 0 hts (gw_C gc_X2_init) rfl rfl rfl hnx.2.1 (hts _ gi_RX2) (by decide +kernel) ⟨Nat.le_of_ble_eq_true rfl, Nat.le_of_ble_eq_true rfl⟩, rfl, hts _ gn_X2_init⟩ ⟨preI_bl, fun U hU hW => ⟨rfl, by rw [hU]; exact hH.1.1, by rw [hU]; exact hH.1.2 125 (by omega), va_K.moved hW.alike hK, nx_w hW hnx⟩⟩ rfl rfl hl.1 rfl (lv_room (Nat.le_of_ble_eq_true rfl)) dX4_init_57 ⟨Nat.le_of_ble_eq_true rfl, Nat.le_of_ble_eq_true rfl⟩) hH (fun H locs hH => ?_)
  refine b_putF hx hb hts inlX4 tyX4 tyX4_ok nmX4 hown hK hH 0 (by omega) (fs := [.ref (n + 1), .ref (n + 16), .ref (n + 31), .ref (n + 123), .ref (n + 124), .null]) rfl (ci := 4) rfl 5 (by omega) gfX4_37 rfl rfl hin2 (ty := tyX4 5) (tyX4_ok 5 (by omega)) rfl rfl (Nat.le_of_ble_eq_true rfl) dX4_init_60 (fun H locs hH => ?_)
  refine lv_iconst (v := 0) hx hb dX4_init_63 (by decide) ?_
  refine lv_istore_n (lv' := [(1, .int 0), (0, .ref n)]) hx hb dX4_init_64 rfl hl (by decide) rfl (fun ls hl => ?_)
  refine lv_iload_n hx hb dX4_init_65 rfl (lv_at hl 0 rfl) ?_
  refine lv_iconst (v := 2) hx hb dX4_init_66 (by decide) ?_
  refine lv_icmp_ge (tgt := 89) hx hb dX4_init_67 (by decide) (fun c1 => absurd c1 (by decide)) (fun _ => ?_)
  refine lv_aload_n hx hb dX4_init_70 rfl (lv_at hl 1 rfl) ?_
  refine b_get hx hb hts inlX4 hown hK hH 0 (by omega) (fs := [.ref (n + 1), .ref (n + 16), .ref (n + 31), .ref (n + 123), .ref (n + 124), .ref (n + 125)]) rfl (ci := 4) rfl 3 (by omega) gfX4_26 rfl rfl dX4_init_71 ?_
  refine lv_iload_n hx hb dX4_init_74 rfl (lv_at hl 0 rfl) ?_
  refine b_new hx hb hts inlX3 tyX3 tyX3_ok hown (hts _ gclX4_7) (hts _ gx_RX3) (hts _ gi_RX3) hK hH (ci := 3) rfl dfX3 (Nat.le_of_ble_eq_true rfl) (Nat.le_of_ble_eq_true rfl) dX4_init_75 (fun H hH => ?_)
  refine lv_dup hx hb dX4_init_78 rfl ?_
  refine b_join (va_runI (As := []) (rest := [.ref (n + 127), .int 0, .ref (n + 123)]) S (ci_X3 l (n + 127)) (cwI 0 hts (gw_C gc_X3_init) rfl rfl rfl (hts _ gi_RX3) (hts _ gmX4_9) (hts _ gn_X3_init) rfl (by decide +kernel) ⟨Nat.le_of_ble_eq_true rfl, Nat.le_of_ble_eq_true rfl⟩) ⟨preI_bl, fun U hU hW => ⟨rfl, by rw [hU]; exact hH.1.1, by rw [hU]; exact hH.1.2 127 (by omega), va_K.moved hW.alike hK, nx_w hW hnx⟩⟩ rfl rfl hl.1 rfl (lv_room (Nat.le_of_ble_eq_true rfl)) dX4_init_79 ⟨Nat.le_of_ble_eq_true rfl, Nat.le_of_ble_eq_true rfl⟩) hH (fun H locs hH => ?_)
  refine b_aast hx hb (ci := 3) (r := (RX3, TX3, 12)) rfl hK (hK.2 4 _ rfl).2 hH 123 127 (by omega) (by omega) rfl rfl (vp_in_nI (n := 0) (by omega) (by omega)) dX4_init_82 (fun H locs hH => ?_)
  refine lv_iinc (v := 1) (lv' := [(1, .int 1), (0, .ref n)]) hx hb dX4_init_83 hl (k := 0) rfl (by decide) (by decide) rfl (fun ls hl => ?_)
  refine lv_goto (tgt := 65) hx hb dX4_init_86 (by decide) ?_
  refine lv_iload_n hx hb dX4_init_65 rfl (lv_at hl 0 rfl) ?_
  refine lv_iconst (v := 2) hx hb dX4_init_66 (by decide) ?_
  refine lv_icmp_ge (tgt := 89) hx hb dX4_init_67 (by decide) (fun c1 => absurd c1 (by decide)) (fun _ => ?_)
  refine lv_aload_n hx hb dX4_init_70 rfl (lv_at hl 1 rfl) ?_
  refine b_get hx hb hts inlX4 hown hK hH 0 (by omega) (fs := [.ref (n + 1), .ref (n + 16), .ref (n + 31), .ref (n + 123), .ref (n + 124), .ref (n + 125)]) rfl (ci := 4) rfl 3 (by omega) gfX4_26 rfl rfl dX4_init_71 ?_
  refine lv_iload_n hx hb dX4_init_74 rfl (lv_at hl 0 rfl) ?_
  refine b_new hx hb hts inlX3 tyX3 tyX3_ok hown (hts _ gclX4_7) (hts _ gx_RX3) (hts _ gi_RX3) hK hH (ci := 3) rfl dfX3 (Nat.le_of_ble_eq_true rfl) (Nat.le_of_ble_eq_true rfl) dX4_init_75 (fun H hH => ?_)
  refine lv_dup hx hb dX4_init_78 rfl ?_
  refine b_join (va_runI (As := []) (rest := [.ref (n + 142), .int 1, .ref (n + 123)]) S (ci_X3 l (n + 142)) (cwI 0 hts (gw_C gc_X3_init) rfl rfl rfl (hts _ gi_RX3) (hts _ gmX4_9) (hts _ gn_X3_init) rfl (by decide +kernel) ⟨Nat.le_of_ble_eq_true rfl, Nat.le_of_ble_eq_true rfl⟩) ⟨preI_bl, fun U hU hW => ⟨rfl, by rw [hU]; exact hH.1.1, by rw [hU]; exact hH.1.2 142 (by omega), va_K.moved hW.alike hK, nx_w hW hnx⟩⟩ rfl rfl hl.1 rfl (lv_room (Nat.le_of_ble_eq_true rfl)) dX4_init_79 ⟨Nat.le_of_ble_eq_true rfl, Nat.le_of_ble_eq_true rfl⟩) hH (fun H locs hH => ?_)
  refine b_aast hx hb (ci := 3) (r := (RX3, TX3, 12)) rfl hK (hK.2 4 _ rfl).2 hH 123 142 (by omega) (by omega) rfl rfl (vp_in_nI (n := 1) (by omega) (by omega)) dX4_init_82 (fun H locs hH => ?_)
  refine lv_iinc (v := 2) (lv' := [(1, .int 2), (0, .ref n)]) hx hb dX4_init_83 hl (k := 0) rfl (by decide) (by decide) rfl (fun ls hl => ?_)
  refine lv_goto (tgt := 65) hx hb dX4_init_86 (by decide) ?_
  refine lv_iload_n hx hb dX4_init_65 rfl (lv_at hl 0 rfl) ?_
  refine lv_iconst (v := 2) hx hb dX4_init_66 (by decide) ?_
  refine lv_icmp_ge (tgt := 89) hx hb dX4_init_67 (by decide) (fun _ => ?_) (fun c1 => absurd (by decide) c1)
  refine W.widen (k := 156) (n := 2005) (Nat.le_of_ble_eq_true rfl) (Nat.le_of_ble_eq_true rfl) ?_
  have hH2 : bH D (fun r => cwE Y (ad0 n) mu0 (inv r)) n 157 s _ _ := bH_e hH (fun r hr => by
    rcases (show r = 0 ∨ r = 31 ∨ r = 32 ∨ r = 123 ∨ r = 124 ∨ r = 125 ∨ r = 126 ∨ (1 ≤ r ∧ r < 16) ∨ (16 ≤ r ∧ r < 31) ∨ (33 ≤ r ∧ r < 123) ∨ (127 ≤ r ∧ r < 142) ∨ (142 ≤ r ∧ r < 157) by omega) with rfl | rfl | rfl | rfl | rfl | rfl | rfl | h | h | h | h | h
    · rfl
    · rfl
    · exact congrArg (fun f => Sum.inl (Y.2.2.2.2, 6, Sum.inr (Sum.inr (Sum.inr (Sum.inr f))))) (g4_h n)
    · exact congrArg (fun f => Sum.inl (Y.2.2.2.2, 2, Sum.inr (Sum.inr (Sum.inr (Sum.inr f))))) (g4_s n)
    · exact congrArg (fun f => Sum.inl (Y.2.2.1, 2, Sum.inl f)) cu_0.symm
    · rfl
    · exact congrArg (fun f => Sum.inl (Y.2.1, 60, Sum.inl f)) cu_0.symm
    · rw [eu_n (by omega), ej_l (by omega), eu_n (by omega), eu_n (by omega), ej_l (by omega), eu_n (by omega), eu_n (by omega), ej_l (by omega), eu_n (by omega), eu_n (by omega), eu_n (by omega), eu_n (by omega), eu_n (by omega), eu_n (by omega), ej_l (by omega), eu_n (by omega), eu_n (by omega), ej_l (by omega), eu_n (by omega), eu_n (by omega), ej_h (by omega)]
      exact g4_k (k := 0) (j := r - 1) (by omega) (by omega) (inv_k 0 (r - 1) 1 (by omega) (by omega) rfl (by omega)) (fun x hx => by rw [pos_k hx (by omega), if_pos (by omega)]; omega)
    · rw [eu_n (by omega), ej_l (by omega), eu_n (by omega), eu_n (by omega), ej_l (by omega), eu_n (by omega), eu_n (by omega), ej_l (by omega), eu_n (by omega), eu_n (by omega), eu_n (by omega), eu_n (by omega), eu_n (by omega), eu_n (by omega), ej_l (by omega), eu_n (by omega), eu_n (by omega), ej_h (by omega)]
      exact g4_k (k := 1) (j := r - 16) (by omega) (by omega) (inv_k 1 (r - 16) 16 (by omega) (by omega) rfl (by omega)) (fun x hx => by rw [pos_k hx (by omega), if_pos (by omega)]; omega)
    · rw [eu_n (by omega), ej_l (by omega), eu_n (by omega), eu_n (by omega), ej_l (by omega), eu_n (by omega), eu_n (by omega), ej_l (by omega), eu_n (by omega), eu_n (by omega), eu_n (by omega), eu_n (by omega), eu_n (by omega), eu_n (by omega), ej_h (by omega)]
      rcases (show r < 48 ∨ (48 ≤ r ∧ r < 63) ∨ (63 ≤ r ∧ r < 78) ∨ (78 ≤ r ∧ r < 93) ∨ (93 ≤ r ∧ r < 108) ∨ 108 ≤ r by omega) with h2 | h2 | h2 | h2 | h2 | h2
      · rw [hi_k (k := 0) (j := r - 33) (by omega) (by omega)]
        exact g4_k (k := 2) (j := r - 33) (by omega) (by omega) (inv_k 2 (r - 33) 33 (by omega) (by omega) rfl (by omega)) (fun x hx => by rw [pos_k hx (by omega), if_neg (by omega), if_pos (by omega)]; omega)
      · rw [hi_k (k := 1) (j := r - 48) (by omega) (by omega)]
        exact g4_k (k := 3) (j := r - 48) (by omega) (by omega) (inv_k 3 (r - 48) 48 (by omega) (by omega) rfl (by omega)) (fun x hx => by rw [pos_k hx (by omega), if_neg (by omega), if_pos (by omega)]; omega)
      · rw [hi_k (k := 2) (j := r - 63) (by omega) (by omega)]
        exact g4_k (k := 4) (j := r - 63) (by omega) (by omega) (inv_k 4 (r - 63) 63 (by omega) (by omega) rfl (by omega)) (fun x hx => by rw [pos_k hx (by omega), if_neg (by omega), if_pos (by omega)]; omega)
      · rw [hi_k (k := 3) (j := r - 78) (by omega) (by omega)]
        exact g4_k (k := 5) (j := r - 78) (by omega) (by omega) (inv_k 5 (r - 78) 78 (by omega) (by omega) rfl (by omega)) (fun x hx => by rw [pos_k hx (by omega), if_neg (by omega), if_pos (by omega)]; omega)
      · rw [hi_k (k := 4) (j := r - 93) (by omega) (by omega)]
        exact g4_k (k := 6) (j := r - 93) (by omega) (by omega) (inv_k 6 (r - 93) 93 (by omega) (by omega) rfl (by omega)) (fun x hx => by rw [pos_k hx (by omega), if_neg (by omega), if_pos (by omega)]; omega)
      · rw [hi_k (k := 5) (j := r - 108) (by omega) (by omega)]
        exact g4_k (k := 7) (j := r - 108) (by omega) (by omega) (inv_k 7 (r - 108) 108 (by omega) (by omega) rfl (by omega)) (fun x hx => by rw [pos_k hx (by omega), if_neg (by omega), if_pos (by omega)]; omega)
    · rw [eu_n (by omega), ej_l (by omega), eu_n (by omega), eu_n (by omega), ej_h (by omega)]
      exact g4_k (k := 8) (j := r - 127) (by omega) (by omega) (inv_k 8 (r - 127) 127 (by omega) (by omega) rfl (by omega)) (fun x hx => by rw [pos_k hx (by omega), if_neg (by omega), if_neg (by omega)]; omega)
    · rw [eu_n (by omega), ej_h (by omega)]
      exact g4_k (k := 9) (j := r - 142) (by omega) (by omega) (inv_k 9 (r - 142) 142 (by omega) (by omega) rfl (by omega)) (fun x hx => by rw [pos_k hx (by omega), if_neg (by omega), if_neg (by omega)]; omega))
  exact W.vret hx hb hr (fun t ht hW => ⟨⟨(), rfl, trivial, b_end ht hH2⟩, hH2.2.F ht⟩) hH2.2.2.2 dX4_init_89 hlk
