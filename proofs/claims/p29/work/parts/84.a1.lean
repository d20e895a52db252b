def hiG (Y : cYt) (n : Nat) : Nat → va_E := fun r => if r = 0 then .inr (1, [.ref (n + 1), .int 0, .int 0]) else if r = 1 then .inl (Y.2.2.2.2, 6, .inr (.inr (.inr (.inr (fun i => if i < 6 then some (n + (2 + 15 * i)) else none))))) else stE Y (fun x => n + (2 + 15 * ((r - 2) / 15)) + x) 0 ((r - 2) % 15) s0 (fun _ => 0)
theorem hi_1 (n : Nat) : (fun i => if i < 6 then some (n + (2 + 15 * i)) else none) = va_up (va_up (va_up (va_up (va_up (va_up (fun _ => none) 0 (some (n + 2))) 1 (some (n + 17))) 2 (some (n + 32))) 3 (some (n + 47))) 4 (some (n + 62))) 5 (some (n + 77)) := by
  funext i
  by_cases h : i < 6
  · rcases (show i = 0 ∨ i = 1 ∨ i = 2 ∨ i = 3 ∨ i = 4 ∨ i = 5 by omega) with rfl | rfl | rfl | rfl | rfl | rfl <;> rfl
  · rw [if_neg h, va_up_ne _ _ (by omega), va_up_ne _ _ (by omega), va_up_ne _ _ (by omega), va_up_ne _ _ (by omega), va_up_ne _ _ (by omega), va_up_ne _ _ (by omega)]
theorem hi_k {Y : cYt} {n k j r : Nat} (hj : j < 15) (hr : r = 2 + 15 * k + j) : hiG Y n r = stE Y (fun x => n + (2 + 15 * k) + x) 0 j s0 (fun _ => 0) := by
  unfold hiG
  rw [if_neg (by omega), if_neg (by omega), show (r - 2) / 15 = k by omega, show (r - 2) % 15 = j by omega]
set_option maxRecDepth 100000 in
set_option maxHeartbeats 8000000 in
theorem ci_X1 (l : Launch) {D : va_G} {Y : cYt} (n : Nat) : Met l yX1_init uX1_init rmi1 (va_Pc [.ref n] (preI D (cTys Y) n 1 [.null, .int 0, .int 0])) (va_Qv (fun _ : Unit => True) (fun _ t9 => t9.heap.size = n + 92 ∧ ∀ r, r < 92 → va_at D vwCl (n + r, (hiG Y n) r) t9.heap) (fun q => n ≤ q)) 91 1164 (fun q => n ≤ q) := by
  refine Met.ofW (cc := cX1_init) (maxL := 2) (ret := none) (by decide) rfl ?_
  intro p e s m args below meth c s₁ B hml hv
  obtain ⟨rfl, hsz, hat, hK, hnx⟩ := hv
  have hx := B.exec
  have hb := B.bytes
  have hr := B.returns
  have hlk := B.notSynchronized
  have hin2 : meth.name = "<init>" := (name_of_methodNamed B.named B.method).1
  have hown : s.vm.findClass RX1 = some m.cls := findClass_of_methodNamed B.named
  have hts : ∀ w ∈ gw, w.before ([.ref n] : List Value).toArray s = true := fun w h => atoms_spec (ws := uX1_init) B.pre w (List.mem_cons_of_mem _ h)
  have S : CallFix p m c cX1_init 2 s ([.ref n] : List Value).toArray gw RX1 := ⟨hx, hb, hml, hown, hts⟩
  have hl := lv_entry ([.ref n]) (n := 2) (Nat.le_of_ble_eq_true rfl)
  rw [lg_entry_eq]
  generalize (lg_sl ([.ref n]) ++ List.replicate (2 - (lg_sl ([.ref n])).length) Slot.unset).toArray = ls at hl ⊢
  have hl : lv_has ls 2 [(0, .ref n)] := hl
  have hH : bH D (fun _ => .inr (1, [.null, .int 0, .int 0])) n 1 s s.heap [] := b_one hsz hat
  refine lv_aload_n hx hb dX1_init_0 rfl (lv_at hl 0 rfl) ?_
  refine W.objInit hx hb hown (hts _ gmX1_3) (hts _ gl_instanceMethod_objectInit) (hts _ gl_code_objectInit) rfl (hl.1.trans hml.symm) rfl dX1_init_1 (Nat.le_of_ble_eq_true rfl) (Nat.le_of_ble_eq_true rfl) ?_
  change W _ _ _ _ _ _ _ _ _ _ _ _ _ _ _ (F0 m 4 ls [])
  refine lv_aload_n hx hb dX1_init_4 rfl (lv_at hl 0 rfl) ?_
  refine lv_bipush (v := 6) hx hb dX1_init_5 (by decide) ?_
  refine b_newq hx hb hown (hts _ gclX1_9) hnx.2.2.2 (hK.2 4 _ rfl).2.choose_spec.choose_spec.2.2.2 hH (N := 6) (by decide) (by decide) (Nat.le_of_ble_eq_true rfl) (Nat.le_of_ble_eq_true rfl) (Nat.le_of_ble_eq_true rfl) dX1_init_7 (fun H hH => ?_)
  refine b_putF hx hb hts inlX1 tyX1 tyX1_ok nmX1 hown hK hH 0 (by omega) (fs := [.null, .int 0, .int 0]) rfl (ci := 1) rfl 0 (by omega) gfX1_11 rfl rfl hin2 (ty := tyX1 0) (tyX1_ok 0 (by omega)) rfl rfl (Nat.le_of_ble_eq_true rfl) dX1_init_10 (fun H locs hH => ?_)
  refine lv_iconst (v := 0) hx hb dX1_init_13 (by decide) ?_
  refine lv_istore_n (lv' := [(1, .int 0), (0, .ref n)]) hx hb dX1_init_14 rfl hl (by decide) rfl (fun ls hl => ?_)
  refine lv_iload_n hx hb dX1_init_15 rfl (lv_at hl 0 rfl) ?_
  refine lv_bipush (v := 6) hx hb dX1_init_16 (by decide) ?_
  refine lv_icmp_ge (tgt := 40) hx hb dX1_init_18 (by decide) (fun c1 => absurd c1 (by decide)) (fun _ => ?_)
  refine lv_aload_n hx hb dX1_init_21 rfl (lv_at hl 1 rfl) ?_
  refine b_get hx hb hts inlX1 hown hK hH 0 (by omega) (fs := [.ref (n + 1), .int 0, .int 0]) rfl (ci := 1) rfl 0 (by omega) gfX1_11 rfl rfl dX1_init_22 ?_
  refine lv_iload_n hx hb dX1_init_25 rfl (lv_at hl 0 rfl) ?_
  refine b_new hx hb hts inlX3 tyX3 tyX3_ok hown (hts _ gclX1_9) (hts _ gx_RX3) (hts _ gi_RX3) hK hH (ci := 3) rfl dfX3 (Nat.le_of_ble_eq_true rfl) (Nat.le_of_ble_eq_true rfl) dX1_init_26 (fun H hH => ?_)
  refine lv_dup hx hb dX1_init_29 rfl ?_
  refine b_join (va_runI (As := []) (rest := [.ref (n + 2), .int 0, .ref (n + 1)]) S (ci_X3 l (n + 2)) (cwI 0 hts (gw_C gc_X3_init) rfl rfl rfl (hts _ gi_RX3) (hts _ gmX1_17) (hts _ gn_X3_init) rfl (by decide +kernel) ⟨Nat.le_of_ble_eq_true rfl, Nat.le_of_ble_eq_true rfl⟩) ⟨preI_bl, fun U hU hW => ⟨rfl, by rw [hU]; exact hH.1.1, by rw [hU]; exact hH.1.2 2 (by omega), va_K.moved hW.alike hK, nx_w hW hnx⟩⟩ rfl rfl hl.1 rfl (lv_room (Nat.le_of_ble_eq_true rfl)) dX1_init_30 ⟨Nat.le_of_ble_eq_true rfl, Nat.le_of_ble_eq_true rfl⟩) hH (fun H locs hH => ?_)
  refine b_aast hx hb (ci := 3) (r := (RX3, TX3, 12)) rfl hK (hK.2 4 _ rfl).2 hH 1 2 (by omega) (by omega) rfl rfl (vp_in_nI (n := 0) (by omega) (by omega)) dX1_init_33 (fun H locs hH => ?_)
  refine lv_iinc (v := 1) (lv' := [(1, .int 1), (0, .ref n)]) hx hb dX1_init_34 hl (k := 0) rfl (by decide) (by decide) rfl (fun ls hl => ?_)
  refine lv_goto (tgt := 15) hx hb dX1_init_37 (by decide) ?_
  refine lv_iload_n hx hb dX1_init_15 rfl (lv_at hl 0 rfl) ?_
  refine lv_bipush (v := 6) hx hb dX1_init_16 (by decide) ?_
  refine lv_icmp_ge (tgt := 40) hx hb dX1_init_18 (by decide) (fun c1 => absurd c1 (by decide)) (fun _ => ?_)
  refine lv_aload_n hx hb dX1_init_21 rfl (lv_at hl 1 rfl) ?_
  refine b_get hx hb hts inlX1 hown hK hH 0 (by omega) (fs := [.ref (n + 1), .int 0, .int 0]) rfl (ci := 1) rfl 0 (by omega) gfX1_11 rfl rfl dX1_init_22 ?_
  refine lv_iload_n hx hb dX1_init_25 rfl (lv_at hl 0 rfl) ?_
  refine b_new hx hb hts inlX3 tyX3 tyX3_ok hown (hts _ gclX1_9) (hts _ gx_RX3) (hts _ gi_RX3) hK hH (ci := 3) rfl dfX3 (Nat.le_of_ble_eq_true rfl) (Nat.le_of_ble_eq_true rfl) dX1_init_26 (fun H hH => ?_)
  refine lv_dup hx hb dX1_init_29 rfl ?_
  refine b_join (va_runI (As := []) (rest := [.ref (n + 17), .int 1, .ref (n + 1)]) S (ci_X3 l (n + 17)) (cwI 0 hts (gw_C gc_X3_init) rfl rfl rfl (hts _ gi_RX3) (hts _ gmX1_17) (hts _ gn_X3_init) rfl (by decide +kernel) ⟨Nat.le_of_ble_eq_true rfl, Nat.le_of_ble_eq_true rfl⟩) ⟨preI_bl, fun U hU hW => ⟨rfl, by rw [hU]; exact hH.1.1, by rw [hU]; exact hH.1.2 17 (by omega), va_K.moved hW.alike hK, nx_w hW hnx⟩⟩ rfl rfl hl.1 rfl (lv_room (Nat.le_of_ble_eq_true rfl)) dX1_init_30 ⟨Nat.le_of_ble_eq_true rfl, Nat.le_of_ble_eq_true rfl⟩) hH (fun H locs hH => ?_)
  refine b_aast hx hb (ci := 3) (r := (RX3, TX3, 12)) rfl hK (hK.2 4 _ rfl).2 hH 1 17 (by omega) (by omega) rfl rfl (vp_in_nI (n := 1) (by omega) (by omega)) dX1_init_33 (fun H locs hH => ?_)
  refine lv_iinc (v := 2) (lv' := [(1, .int 2), (0, .ref n)]) hx hb dX1_init_34 hl (k := 0) rfl (by decide) (by decide) rfl (fun ls hl => ?_)
  refine lv_goto (tgt := 15) hx hb dX1_init_37 (by decide) ?_
  refine lv_iload_n hx hb dX1_init_15 rfl (lv_at hl 0 rfl) ?_
  refine lv_bipush (v := 6) hx hb dX1_init_16 (by decide) ?_
  refine lv_icmp_ge (tgt := 40) hx hb dX1_init_18 (by decide) (fun c1 => absurd c1 (by decide)) (fun _ => ?_)
  refine lv_aload_n hx hb dX1_init_21 rfl (lv_at hl 1 rfl) ?_
  refine b_get hx hb hts inlX1 hown hK hH 0 (by omega) (fs := [.ref (n + 1), .int 0, .int 0]) rfl (ci := 1) rfl 0 (by omega) gfX1_11 rfl rfl dX1_init_22 ?_
  refine lv_iload_n hx hb dX1_init_25 rfl (lv_at hl 0 rfl) ?_
  refine b_new hx hb hts inlX3 tyX3 tyX3_ok hown (hts _ gclX1_9) (hts _ gx_RX3) (hts _ gi_RX3) hK hH (ci := 3) rfl dfX3 (Nat.le_of_ble_eq_true rfl) (Nat.le_of_ble_eq_true rfl) dX1_init_26 (fun H hH => ?_)
  refine lv_dup hx hb dX1_init_29 rfl ?_
  refine b_join (va_runI (As := []) (rest := [.ref (n + 32), .int 2, .ref (n + 1)]) S (ci_X3 l (n + 32)) (cwI 0 hts (gw_C gc_X3_init) rfl rfl rfl (hts _ gi_RX3) (hts _ gmX1_17) (hts _ gn_X3_init) rfl (by decide +kernel) ⟨Nat.le_of_ble_eq_true rfl, Nat.le_of_ble_eq_true rfl⟩) ⟨preI_bl, fun U hU hW => ⟨rfl, by rw [hU]; exact hH.1.1, by rw [hU]; exact hH.1.2 32 (by omega), va_K.moved hW.alike hK, nx_w hW hnx⟩⟩ rfl rfl hl.1 rfl (lv_room (Nat.le_of_ble_eq_true rfl)) dX1_init_30 ⟨Nat.le_of_ble_eq_true rfl, Nat.le_of_ble_eq_true rfl⟩) hH (fun H locs hH => ?_)
  refine b_aast hx hb (ci := 3) (r := (RX3, TX3, 12)) rfl hK (hK.2 4 _ rfl).2 hH 1 32 (by omega) (by omega) rfl rfl (vp_in_nI (n := 2) (by omega) (by omega)) dX1_init_33 (fun H locs hH => ?_)
  refine lv_iinc (v := 3) (lv' := [(1, .int 3), (0, .ref n)]) hx hb dX1_init_34 hl (k := 0) rfl (by decide) (by decide) rfl (fun ls hl => ?_)
  refine lv_goto (tgt := 15) hx hb dX1_init_37 (by decide) ?_
  refine lv_iload_n hx hb dX1_init_15 rfl (lv_at hl 0 rfl) ?_
  refine lv_bipush (v := 6) hx hb dX1_init_16 (by decide) ?_
  refine lv_icmp_ge (tgt := 40) hx hb dX1_init_18 (by decide) (fun c1 => absurd c1 (by decide)) (fun _ => ?_)
  refine lv_aload_n hx hb dX1_init_21 rfl (lv_at hl 1 rfl) ?_
  refine b_get hx hb hts inlX1 hown hK hH 0 (by omega) (fs := [.ref (n + 1), .int 0, .int 0]) rfl (ci := 1) rfl 0 (by omega) gfX1_11 rfl rfl dX1_init_22 ?_
  refine lv_iload_n hx hb dX1_init_25 rfl (lv_at hl 0 rfl) ?_
  refine b_new hx hb hts inlX3 tyX3 tyX3_ok hown (hts _ gclX1_9) (hts _ gx_RX3) (hts _ gi_RX3) hK hH (ci := 3) rfl dfX3 (Nat.le_of_ble_eq_true rfl) (Nat.le_of_ble_eq_true rfl) dX1_init_26 (fun H hH => ?_)
  refine lv_dup hx hb dX1_init_29 rfl ?_
  refine b_join (va_runI (As := []) (rest := [.ref (n + 47), .int 3, .ref (n + 1)]) S (ci_X3 l (n + 47)) (cwI 0 hts (gw_C gc_X3_init) rfl rfl rfl (hts _ gi_RX3) (hts _ gmX1_17) (hts _ gn_X3_init) rfl (by decide +kernel) ⟨Nat.le_of_ble_eq_true rfl, Nat.le_of_ble_eq_true rfl⟩) ⟨preI_bl, fun U hU hW => ⟨rfl, by rw [hU]; exact hH.1.1, by rw [hU]; exact hH.1.2 47 (by omega), va_K.moved hW.alike hK, nx_w hW hnx⟩⟩ rfl rfl hl.1 rfl (lv_room (Nat.le_of_ble_eq_true rfl)) dX1_init_30 ⟨Nat.le_of_ble_eq_true rfl, Nat.le_of_ble_eq_true rfl⟩) hH (fun H locs hH => ?_)
  refine b_aast hx hb (ci := 3) (r := (RX3, TX3, 12)) rfl hK (hK.2 4 _ rfl).2 hH 1 47 (by omega) (by omega) rfl rfl (vp_in_nI (n := 3) (by omega) (by omega)) dX1_init_33 (fun H locs hH => ?_)
  refine lv_iinc (v := 4) (lv' := [(1, .int 4), (0, .ref n)]) hx hb dX1_init_34 hl (k := 0) rfl (by decide) (by decide) rfl (fun ls hl => ?_)
  refine lv_goto (tgt := 15) hx hb dX1_init_37 (by decide) ?_
  refine lv_iload_n hx hb dX1_init_15 rfl (lv_at hl 0 rfl) ?_
  refine lv_bipush (v := 6) hx hb dX1_init_16 (by decide) ?_
  refine lv_icmp_ge (tgt := 40) hx hb dX1_init_18 (by decide) (fun c1 => absurd c1 (by decide)) (fun _ => ?_)
  refine lv_aload_n hx hb dX1_init_21 rfl (lv_at hl 1 rfl) ?_
  refine b_get hx hb hts inlX1 hown hK hH 0 (by omega) (fs := [.ref (n + 1), .int 0, .int 0]) rfl (ci := 1) rfl 0 (by omega) gfX1_11 rfl rfl dX1_init_22 ?_
  refine lv_iload_n hx hb dX1_init_25 rfl (lv_at hl 0 rfl) ?_
  refine b_new hx hb hts inlX3 tyX3 tyX3_ok hown (hts _ gclX1_9) (hts _ gx_RX3) (hts _ gi_RX3) hK hH (ci := 3) rfl dfX3 (Nat.le_of_ble_eq_true rfl) (Nat.le_of_ble_eq_true rfl) dX1_init_26 (fun H hH => ?_)
  refine lv_dup hx hb dX1_init_29 rfl ?_
  refine b_join (va_runI (As := []) (rest := [.ref (n + 62), .int 4, .ref (n + 1)]) S (ci_X3 l (n + 62)) (cwI 0 hts (gw_C gc_X3_init) rfl rfl rfl (hts _ gi_RX3) (hts _ gmX1_17) (hts _ gn_X3_init) rfl (by decide +kernel) ⟨Nat.le_of_ble_eq_true rfl, Nat.le_of_ble_eq_true rfl⟩) ⟨preI_bl, fun U hU hW => ⟨rfl, by rw [hU]; exact hH.1.1, by rw [hU]; exact hH.1.2 62 (by omega), va_K.moved hW.alike hK, nx_w hW hnx⟩⟩ rfl rfl hl.1 rfl (lv_room (Nat.le_of_ble_eq_true rfl)) dX1_init_30 ⟨Nat.le_of_ble_eq_true rfl, Nat.le_of_ble_eq_true rfl⟩) hH (fun H locs hH => ?_)
  refine b_aast hx hb (ci := 3) (r := (RX3, TX3, 12)) rfl hK (hK.2 4 _ rfl).2 hH 1 62 (by omega) (by omega) rfl rfl (vp_in_nI (n := 4) (by omega) (by omega)) dX1_init_33 (fun H locs hH => ?_)
  refine lv_iinc (v := 5) (lv' := [(1, .int 5), (0, .ref n)]) hx hb dX1_init_34 hl (k := 0) rfl (by decide) (by decide) rfl (fun ls hl => ?_)
  refine lv_goto (tgt := 15) hx hb dX1_init_37 (by decide) ?_
  refine lv_iload_n hx hb dX1_init_15 rfl (lv_at hl 0 rfl) ?_
  refine lv_bipush (v := 6) hx hb dX1_init_16 (by decide) ?_
  refine lv_icmp_ge (tgt := 40) hx hb dX1_init_18 (by decide) (fun c1 => absurd c1 (by decide)) (fun _ => ?_)
  refine lv_aload_n hx hb dX1_init_21 rfl (lv_at hl 1 rfl) ?_
  refine b_get hx hb hts inlX1 hown hK hH 0 (by omega) (fs := [.ref (n + 1), .int 0, .int 0]) rfl (ci := 1) rfl 0 (by omega) gfX1_11 rfl rfl dX1_init_22 ?_
  refine lv_iload_n hx hb dX1_init_25 rfl (lv_at hl 0 rfl) ?_
  refine b_new hx hb hts inlX3 tyX3 tyX3_ok hown (hts _ gclX1_9) (hts _ gx_RX3) (hts _ gi_RX3) hK hH (ci := 3) rfl dfX3 (Nat.le_of_ble_eq_true rfl) (Nat.le_of_ble_eq_true rfl) dX1_init_26 (fun H hH => ?_)
  refine lv_dup hx hb dX1_init_29 rfl ?_
  refine b_join (va_runI (As := []) (rest := [.ref (n + 77), .int 5, .ref (n + 1)]) S (ci_X3 l (n + 77)) (cwI 0 hts (gw_C gc_X3_init) rfl rfl rfl (hts _ gi_RX3) (hts _ gmX1_17) (hts _ gn_X3_init) rfl (by decide +kernel) ⟨Nat.le_of_ble_eq_true rfl, Nat.le_of_ble_eq_true rfl⟩) ⟨preI_bl, fun U hU hW => ⟨rfl, by rw [hU]; exact hH.1.1, by rw [hU]; exact hH.1.2 77 (by omega), va_K.moved hW.alike hK, nx_w hW hnx⟩⟩ rfl rfl hl.1 rfl (lv_room (Nat.le_of_ble_eq_true rfl)) dX1_init_30 ⟨Nat.le_of_ble_eq_true rfl, Nat.le_of_ble_eq_true rfl⟩) hH (fun H locs hH => ?_)
  refine b_aast hx hb (ci := 3) (r := (RX3, TX3, 12)) rfl hK (hK.2 4 _ rfl).2 hH 1 77 (by omega) (by omega) rfl rfl (vp_in_nI (n := 5) (by omega) (by omega)) dX1_init_33 (fun H locs hH => ?_)
  refine lv_iinc (v := 6) (lv' := [(1, .int 6), (0, .ref n)]) hx hb dX1_init_34 hl (k := 0) rfl (by decide) (by decide) rfl (fun ls hl => ?_)
  refine lv_goto (tgt := 15) hx hb dX1_init_37 (by decide) ?_
  refine lv_iload_n hx hb dX1_init_15 rfl (lv_at hl 0 rfl) ?_
  refine lv_bipush (v := 6) hx hb dX1_init_16 (by decide) ?_
  refine lv_icmp_ge (tgt := 40) hx hb dX1_init_18 (by decide) (fun _ => ?_) (fun c1 => absurd (by decide) c1)
  refine W.widen (k := 91) (n := 1164) (Nat.le_of_ble_eq_true rfl) (Nat.le_of_ble_eq_true rfl) ?_
  have hH2 : bH D (hiG Y n) n 92 s _ _ := bH_e hH (fun r hr => by
    by_cases h0 : r = 0
    · subst h0; rfl
    by_cases h1 : r = 1
    · subst h1; show _ = Sum.inl (Y.2.2.2.2, 6, Sum.inr (Sum.inr (Sum.inr (Sum.inr (fun i => if i < 6 then some (n + (2 + 15 * i)) else none))))); rw [hi_1 n]; rfl
    rcases (show (2 ≤ r ∧ r < 17) ∨ (17 ≤ r ∧ r < 32) ∨ (32 ≤ r ∧ r < 47) ∨ (47 ≤ r ∧ r < 62) ∨ (62 ≤ r ∧ r < 77) ∨ (77 ≤ r ∧ r < 92) by omega) with h | h | h | h | h | h
    · rw [hi_k (k := 0) (j := r - 2) (by omega) (by omega), eu_n (by omega), ej_l (by omega), eu_n (by omega), eu_n (by omega), ej_l (by omega), eu_n (by omega), eu_n (by omega), ej_l (by omega), eu_n (by omega), eu_n (by omega), ej_l (by omega), eu_n (by omega), eu_n (by omega), ej_l (by omega), eu_n (by omega), eu_n (by omega), ej_h (by omega)]
    · rw [hi_k (k := 1) (j := r - 17) (by omega) (by omega), eu_n (by omega), ej_l (by omega), eu_n (by omega), eu_n (by omega), ej_l (by omega), eu_n (by omega), eu_n (by omega), ej_l (by omega), eu_n (by omega), eu_n (by omega), ej_l (by omega), eu_n (by omega), eu_n (by omega), ej_h (by omega)]
    · rw [hi_k (k := 2) (j := r - 32) (by omega) (by omega), eu_n (by omega), ej_l (by omega), eu_n (by omega), eu_n (by omega), ej_l (by omega), eu_n (by omega), eu_n (by omega), ej_l (by omega), eu_n (by omega), eu_n (by omega), ej_h (by omega)]
    · rw [hi_k (k := 3) (j := r - 47) (by omega) (by omega), eu_n (by omega), ej_l (by omega), eu_n (by omega), eu_n (by omega), ej_l (by omega), eu_n (by omega), eu_n (by omega), ej_h (by omega)]
    · rw [hi_k (k := 4) (j := r - 62) (by omega) (by omega), eu_n (by omega), ej_l (by omega), eu_n (by omega), eu_n (by omega), ej_h (by omega)]
    · rw [hi_k (k := 5) (j := r - 77) (by omega) (by omega), eu_n (by omega), ej_h (by omega)])
  exact W.vret hx hb hr (fun t ht hW => ⟨⟨(), rfl, trivial, b_end ht hH2⟩, hH2.2.F ht⟩) hH2.2.2.2 dX1_init_40 hlk
