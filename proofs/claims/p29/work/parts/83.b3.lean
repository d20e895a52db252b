set_option maxRecDepth 100000 in
set_option maxHeartbeats 8000000 in
theorem ci_X3 (l : Launch) {D : va_G} {Y : cYt} (n : Nat) : Met l yX3_init uX3_init rmi3 (va_Pc [.ref n] (preI D (cTys Y) n 3 [.null, .null, .null, .null, .null, .null, .int 0, .int 0, .int 0, .int 0, .int 0, .int 0])) (va_Qv (fun _ : Unit => True) (fun _ t9 => t9.heap.size = n + 15 ∧ ∀ r, r < 15 → va_at D vwCl (n + r, (fun r => stE Y (fun x => n + x) 0 r s0 (fun _ => 0)) r) t9.heap) (fun q => n ≤ q)) 14 181 (fun q => n ≤ q) := by
  refine Met.ofW (cc := cX3_init) (maxL := 2) (ret := none) (by decide) rfl ?_
  intro p e s m args below meth c s₁ B hml hv
  obtain ⟨rfl, hsz, hat, hK, hnx⟩ := hv
  have hx := B.exec
  have hb := B.bytes
  have hr := B.returns
  have hlk := B.notSynchronized
  have hin2 : meth.name = "<init>" := (name_of_methodNamed B.named B.method).1
  have hown : s.vm.findClass RX3 = some m.cls := findClass_of_methodNamed B.named
  have hts : ∀ w ∈ gw, w.before ([.ref n] : List Value).toArray s = true := fun w h => atoms_spec (ws := uX3_init) B.pre w (List.mem_cons_of_mem _ h)
  have S : CallFix p m c cX3_init 2 s ([.ref n] : List Value).toArray gw RX3 := ⟨hx, hb, hml, hown, hts⟩
  have hl := lv_entry ([.ref n]) (n := 2) (Nat.le_of_ble_eq_true rfl)
  rw [lg_entry_eq]
  generalize (lg_sl ([.ref n]) ++ List.replicate (2 - (lg_sl ([.ref n])).length) Slot.unset).toArray = ls at hl ⊢
  have hl : lv_has ls 2 [(0, .ref n)] := hl
  have hH : bH D (fun _ => .inr (3, [.null, .null, .null, .null, .null, .null, .int 0, .int 0, .int 0, .int 0, .int 0, .int 0])) n 1 s s.heap [] := b_one hsz hat
  refine lv_aload_n hx hb dX3_init_0 rfl (lv_at hl 0 rfl) ?_
  refine W.objInit hx hb hown (hts _ gmX3_3) (hts _ gl_instanceMethod_objectInit) (hts _ gl_code_objectInit) rfl (hl.1.trans hml.symm) rfl dX3_init_1 (Nat.le_of_ble_eq_true rfl) (Nat.le_of_ble_eq_true rfl) ?_
  change W _ _ _ _ _ _ _ _ _ _ _ _ _ _ _ (F0 m 4 ls [])
  refine lv_aload_n hx hb dX3_init_4 rfl (lv_at hl 0 rfl) ?_
  refine lv_bipush (v := 30) hx hb dX3_init_5 (by decide) ?_
  refine b_newa (atype := .int) (ty := .int) hx hb (hts _ ga_int) rfl (hK.2 0 _ rfl).2 hH (a0 := (30, .inl (fun _ => 0))) (N := 30) (fun _ => rfl) (by decide) (by decide) (Nat.le_of_ble_eq_true rfl) (Nat.le_of_ble_eq_true rfl) (Nat.le_of_ble_eq_true rfl) dX3_init_7 (fun H hH => ?_)
  refine b_putF hx hb hts inlX3 tyX3 tyX3_ok nmX3 hown hK hH 0 (by omega) (fs := [.null, .null, .null, .null, .null, .null, .int 0, .int 0, .int 0, .int 0, .int 0, .int 0]) rfl (ci := 3) rfl 0 (by omega) gfX3_9 rfl rfl hin2 (ty := tyX3 0) (tyX3_ok 0 (by omega)) rfl rfl (Nat.le_of_ble_eq_true rfl) dX3_init_9 (fun H locs hH => ?_)
  refine lv_aload_n hx hb dX3_init_12 rfl (lv_at hl 0 rfl) ?_
  refine lv_bipush (v := 30) hx hb dX3_init_13 (by decide) ?_
  refine b_newa (atype := .int) (ty := .int) hx hb (hts _ ga_int) rfl (hK.2 0 _ rfl).2 hH (a0 := (30, .inl (fun _ => 0))) (N := 30) (fun _ => rfl) (by decide) (by decide) (Nat.le_of_ble_eq_true rfl) (Nat.le_of_ble_eq_true rfl) (Nat.le_of_ble_eq_true rfl) dX3_init_15 (fun H hH => ?_)
  refine b_putF hx hb hts inlX3 tyX3 tyX3_ok nmX3 hown hK hH 0 (by omega) (fs := [.ref (n + 1), .null, .null, .null, .null, .null, .int 0, .int 0, .int 0, .int 0, .int 0, .int 0]) rfl (ci := 3) rfl 1 (by omega) gfX3_15 rfl rfl hin2 (ty := tyX3 1) (tyX3_ok 1 (by omega)) rfl rfl (Nat.le_of_ble_eq_true rfl) dX3_init_17 (fun H locs hH => ?_)
  refine lv_aload_n hx hb dX3_init_20 rfl (lv_at hl 0 rfl) ?_
  refine lv_bipush (v := 30) hx hb dX3_init_21 (by decide) ?_
  refine b_newa (atype := .int) (ty := .int) hx hb (hts _ ga_int) rfl (hK.2 0 _ rfl).2 hH (a0 := (30, .inl (fun _ => 0))) (N := 30) (fun _ => rfl) (by decide) (by decide) (Nat.le_of_ble_eq_true rfl) (Nat.le_of_ble_eq_true rfl) (Nat.le_of_ble_eq_true rfl) dX3_init_23 (fun H hH => ?_)
  refine b_putF hx hb hts inlX3 tyX3 tyX3_ok nmX3 hown hK hH 0 (by omega) (fs := [.ref (n + 1), .ref (n + 2), .null, .null, .null, .null, .int 0, .int 0, .int 0, .int 0, .int 0, .int 0]) rfl (ci := 3) rfl 2 (by omega) gfX3_18 rfl rfl hin2 (ty := tyX3 2) (tyX3_ok 2 (by omega)) rfl rfl (Nat.le_of_ble_eq_true rfl) dX3_init_25 (fun H locs hH => ?_)
  refine lv_aload_n hx hb dX3_init_28 rfl (lv_at hl 0 rfl) ?_
  refine lv_iconst (v := 3) hx hb dX3_init_29 (by decide) ?_
  refine b_newa (atype := .int) (ty := .int) hx hb (hts _ ga_int) rfl (hK.2 0 _ rfl).2 hH (a0 := (3, .inl (fun _ => 0))) (N := 3) (fun _ => rfl) (by decide) (by decide) (Nat.le_of_ble_eq_true rfl) (Nat.le_of_ble_eq_true rfl) (Nat.le_of_ble_eq_true rfl) dX3_init_30 (fun H hH => ?_)
  refine b_putF hx hb hts inlX3 tyX3 tyX3_ok nmX3 hown hK hH 0 (by omega) (fs := [.ref (n + 1), .ref (n + 2), .ref (n + 3), .null, .null, .null, .int 0, .int 0, .int 0, .int 0, .int 0, .int 0]) rfl (ci := 3) rfl 3 (by omega) gfX3_21 rfl rfl hin2 (ty := tyX3 3) (tyX3_ok 3 (by omega)) rfl rfl (Nat.le_of_ble_eq_true rfl) dX3_init_32 (fun H locs hH => ?_)
  refine lv_aload_n hx hb dX3_init_35 rfl (lv_at hl 0 rfl) ?_
  refine lv_bipush (v := 8) hx hb dX3_init_36 (by decide) ?_
  refine b_newq hx hb hown (hts _ gclX3_24) hnx.2.2.1 (hK.2 3 _ rfl).2.choose_spec.choose_spec.2.2.2 hH (N := 8) (by decide) (by decide) (Nat.le_of_ble_eq_true rfl) (Nat.le_of_ble_eq_true rfl) (Nat.le_of_ble_eq_true rfl) dX3_init_38 (fun H hH => ?_)
  refine b_putF hx hb hts inlX3 tyX3 tyX3_ok nmX3 hown hK hH 0 (by omega) (fs := [.ref (n + 1), .ref (n + 2), .ref (n + 3), .ref (n + 4), .null, .null, .int 0, .int 0, .int 0, .int 0, .int 0, .int 0]) rfl (ci := 3) rfl 4 (by omega) gfX3_26 rfl rfl hin2 (ty := tyX3 4) (tyX3_ok 4 (by omega)) rfl rfl (Nat.le_of_ble_eq_true rfl) dX3_init_41 (fun H locs hH => ?_)
  refine lv_aload_n hx hb dX3_init_44 rfl (lv_at hl 0 rfl) ?_
  refine lv_bipush (v := 8) hx hb dX3_init_45 (by decide) ?_
  refine b_newa (atype := .int) (ty := .int) hx hb (hts _ ga_int) rfl (hK.2 0 _ rfl).2 hH (a0 := (8, .inl (fun _ => 0))) (N := 8) (fun _ => rfl) (by decide) (by decide) (Nat.le_of_ble_eq_true rfl) (Nat.le_of_ble_eq_true rfl) (Nat.le_of_ble_eq_true rfl) dX3_init_47 (fun H hH => ?_)
  refine b_putF hx hb hts inlX3 tyX3 tyX3_ok nmX3 hown hK hH 0 (by omega) (fs := [.ref (n + 1), .ref (n + 2), .ref (n + 3), .ref (n + 4), .ref (n + 5), .null, .int 0, .int 0, .int 0, .int 0, .int 0, .int 0]) rfl (ci := 3) rfl 5 (by omega) gfX3_30 rfl rfl hin2 (ty := tyX3 5) (tyX3_ok 5 (by omega)) rfl rfl (Nat.le_of_ble_eq_true rfl) dX3_init_49 (fun H locs hH => ?_)
  refine lv_iconst (v := 0) hx hb dX3_init_52 (by decide) ?_
  refine lv_istore_n (lv' := [(1, .int 0), (0, .ref n)]) hx hb dX3_init_53 rfl hl (by decide) rfl (fun ls hl => ?_)
  have hH7 : bH D (eu (lE [.inr (3, [.ref (n + 1), .ref (n + 2), .ref (n + 3), .ref (n + 4), .ref (n + 5), .ref (n + 6), .int 0, .int 0, .int 0, .int 0, .int 0, .int 0]), .inl (Y.1, 30, .inl (fun _ => 0)), .inl (Y.1, 30, .inl (fun _ => 0)), .inl (Y.1, 30, .inl (fun _ => 0)), .inl (Y.1, 3, .inl (fun _ => 0)), .inl (Y.2.2.2.1, 8, .inr (.inr (.inr (.inr (fun _ => none))))), .inl (Y.1, 8, .inl (fun _ => 0))]) 1 (.inl (Y.1, 30, .inl (gfl 0)))) n 7 s _ _ := bH_e hH (fun r hr => by
      rcases (show r = 0 ∨ r = 1 ∨ r = 2 ∨ r = 3 ∨ r = 4 ∨ r = 5 ∨ r = 6 by omega) with rfl | rfl | rfl | rfl | rfl | rfl | rfl
      · rfl
      · rw [gf_0]; rfl
      · rfl
      · rfl
      · rfl
      · rfl
      · rfl)
  refine lX3_fill S hK (hK.2 0 _ rfl).1 (E := lE [.inr (3, [.ref (n + 1), .ref (n + 2), .ref (n + 3), .ref (n + 4), .ref (n + 5), .ref (n + 6), .int 0, .int 0, .int 0, .int 0, .int 0, .int 0]), .inl (Y.1, 30, .inl (fun _ => 0)), .inl (Y.1, 30, .inl (fun _ => 0)), .inl (Y.1, 30, .inl (fun _ => 0)), .inl (Y.1, 3, .inl (fun _ => 0)), .inl (Y.2.2.2.1, 8, .inr (.inr (.inr (.inr (fun _ => none))))), .inl (Y.1, 8, .inl (fun _ => 0))]) (fs := [.ref (n + 1), .ref (n + 2), .ref (n + 3), .ref (n + 4), .ref (n + 5), .ref (n + 6), .int 0, .int 0, .int 0, .int 0, .int 0, .int 0]) rfl rfl (by omega) (fun H locs ls hH hl => ?_) 30 0 _ _ ls (by omega) hH7 (lv_sub hl [0, 1] rfl)
  refine lv_iconst (v := 0) hx hb dX3_init_73 (by decide) ?_
  refine lv_istore_n (lv' := [(1, .int 0), (0, .ref n)]) hx hb dX3_init_74 rfl hl (by decide) rfl (fun ls hl => ?_)
  refine lv_iload_n hx hb dX3_init_75 rfl (lv_at hl 0 rfl) ?_
  refine lv_bipush (v := 8) hx hb dX3_init_76 (by decide) ?_
  refine lv_icmp_ge (tgt := 100) hx hb dX3_init_78 (by decide) (fun c1 => absurd c1 (by decide)) (fun _ => ?_)
  refine lv_aload_n hx hb dX3_init_81 rfl (lv_at hl 1 rfl) ?_
  refine b_get hx hb hts inlX3 hown hK hH 0 (by omega) (fs := [.ref (n + 1), .ref (n + 2), .ref (n + 3), .ref (n + 4), .ref (n + 5), .ref (n + 6), .int 0, .int 0, .int 0, .int 0, .int 0, .int 0]) rfl (ci := 3) rfl 4 (by omega) gfX3_26 rfl rfl dX3_init_82 ?_
  refine lv_iload_n hx hb dX3_init_85 rfl (lv_at hl 0 rfl) ?_
  refine b_new hx hb hts inlX0 tyX0 tyX0_ok hown (hts _ gclX3_24) (hts _ gx_RX0) (hts _ gi_RX0) hK hH (ci := 0) rfl dfX0 (Nat.le_of_ble_eq_true rfl) (Nat.le_of_ble_eq_true rfl) dX3_init_86 (fun H hH => ?_)
  refine lv_dup hx hb dX3_init_89 rfl ?_
  refine b_join (va_runIN (As := []) (rest := [.ref (n + 7), .int 0, .ref (n + 5)]) S (ci_X0 l (n + 7)) ⟨va_cnB 0 hts (gw_C gc_X0_init) rfl rfl rfl hnx.1 (hts _ gi_RX0) (by decide +kernel) ⟨Nat.le_of_ble_eq_true rfl, Nat.le_of_ble_eq_true rfl⟩, rfl, hts _ gn_X0_init⟩ ⟨preI_bl, fun U hU hW => ⟨rfl, by rw [hU]; exact hH.1.1, by rw [hU]; exact hH.1.2 7 (by omega), va_K.moved hW.alike hK, nx_w hW hnx⟩⟩ rfl rfl hl.1 rfl (lv_room (Nat.le_of_ble_eq_true rfl)) dX3_init_90 ⟨Nat.le_of_ble_eq_true rfl, Nat.le_of_ble_eq_true rfl⟩) hH (fun H locs hH => ?_)
  refine b_aast hx hb (ci := 0) (r := (RX0, TX0, 9)) rfl hK (hK.2 3 _ rfl).2 hH 5 7 (by omega) (by omega) rfl rfl (vp_in_nI (n := 0) (by omega) (by omega)) dX3_init_93 (fun H locs hH => ?_)
  refine lv_iinc (v := 1) (lv' := [(1, .int 1), (0, .ref n)]) hx hb dX3_init_94 hl (k := 0) rfl (by decide) (by decide) rfl (fun ls hl => ?_)
  refine lv_goto (tgt := 75) hx hb dX3_init_97 (by decide) ?_
  refine lv_iload_n hx hb dX3_init_75 rfl (lv_at hl 0 rfl) ?_
  refine lv_bipush (v := 8) hx hb dX3_init_76 (by decide) ?_
  refine lv_icmp_ge (tgt := 100) hx hb dX3_init_78 (by decide) (fun c1 => absurd c1 (by decide)) (fun _ => ?_)
  refine lv_aload_n hx hb dX3_init_81 rfl (lv_at hl 1 rfl) ?_
  refine b_get hx hb hts inlX3 hown hK hH 0 (by omega) (fs := [.ref (n + 1), .ref (n + 2), .ref (n + 3), .ref (n + 4), .ref (n + 5), .ref (n + 6), .int 0, .int 0, .int 0, .int 0, .int 0, .int 0]) rfl (ci := 3) rfl 4 (by omega) gfX3_26 rfl rfl dX3_init_82 ?_
  refine lv_iload_n hx hb dX3_init_85 rfl (lv_at hl 0 rfl) ?_
  refine b_new hx hb hts inlX0 tyX0 tyX0_ok hown (hts _ gclX3_24) (hts _ gx_RX0) (hts _ gi_RX0) hK hH (ci := 0) rfl dfX0 (Nat.le_of_ble_eq_true rfl) (Nat.le_of_ble_eq_true rfl) dX3_init_86 (fun H hH => ?_)
  refine lv_dup hx hb dX3_init_89 rfl ?_
  refine b_join (va_runIN (As := []) (rest := [.ref (n + 8), .int 1, .ref (n + 5)]) S (ci_X0 l (n + 8)) ⟨va_cnB 0 hts (gw_C gc_X0_init) rfl rfl rfl hnx.1 (hts _ gi_RX0) (by decide +kernel) ⟨Nat.le_of_ble_eq_true rfl, Nat.le_of_ble_eq_true rfl⟩, rfl, hts _ gn_X0_init⟩ ⟨preI_bl, fun U hU hW => ⟨rfl, by rw [hU]; exact hH.1.1, by rw [hU]; exact hH.1.2 8 (by omega), va_K.moved hW.alike hK, nx_w hW hnx⟩⟩ rfl rfl hl.1 rfl (lv_room (Nat.le_of_ble_eq_true rfl)) dX3_init_90 ⟨Nat.le_of_ble_eq_true rfl, Nat.le_of_ble_eq_true rfl⟩) hH (fun H locs hH => ?_)
  refine b_aast hx hb (ci := 0) (r := (RX0, TX0, 9)) rfl hK (hK.2 3 _ rfl).2 hH 5 8 (by omega) (by omega) rfl rfl (vp_in_nI (n := 1) (by omega) (by omega)) dX3_init_93 (fun H locs hH => ?_)
  refine lv_iinc (v := 2) (lv' := [(1, .int 2), (0, .ref n)]) hx hb dX3_init_94 hl (k := 0) rfl (by decide) (by decide) rfl (fun ls hl => ?_)
  refine lv_goto (tgt := 75) hx hb dX3_init_97 (by decide) ?_
  refine lv_iload_n hx hb dX3_init_75 rfl (lv_at hl 0 rfl) ?_
  refine lv_bipush (v := 8) hx hb dX3_init_76 (by decide) ?_
  refine lv_icmp_ge (tgt := 100) hx hb dX3_init_78 (by decide) (fun c1 => absurd c1 (by decide)) (fun _ => ?_)
  refine lv_aload_n hx hb dX3_init_81 rfl (lv_at hl 1 rfl) ?_
  refine b_get hx hb hts inlX3 hown hK hH 0 (by omega) (fs := [.ref (n + 1), .ref (n + 2), .ref (n + 3), .ref (n + 4), .ref (n + 5), .ref (n + 6), .int 0, .int 0, .int 0, .int 0, .int 0, .int 0]) rfl (ci := 3) rfl 4 (by omega) gfX3_26 rfl rfl dX3_init_82 ?_
  refine lv_iload_n hx hb dX3_init_85 rfl (lv_at hl 0 rfl) ?_
  refine b_new hx hb hts inlX0 tyX0 tyX0_ok hown (hts _ gclX3_24) (hts _ gx_RX0) (hts _ gi_RX0) hK hH (ci := 0) rfl dfX0 (Nat.le_of_ble_eq_true rfl) (Nat.le_of_ble_eq_true rfl) dX3_init_86 (fun H hH => ?_)
  refine lv_dup hx hb dX3_init_89 rfl ?_
  refine b_join (va_runIN (As := []) (rest := [.ref (n + 9), .int 2, .ref (n + 5)]) S (ci_X0 l (n + 9)) ⟨va_cnB 0 hts (gw_C gc_X0_init) rfl rfl rfl hnx.1 (hts _ gi_RX0) (by decide +kernel) ⟨Nat.le_of_ble_eq_true rfl, Nat.le_of_ble_eq_true rfl⟩, rfl, hts _ gn_X0_init⟩ ⟨preI_bl, fun U hU hW => ⟨rfl, by rw [hU]; exact hH.1.1, by rw [hU]; exact hH.1.2 9 (by omega), va_K.moved hW.alike hK, nx_w hW hnx⟩⟩ rfl rfl hl.1 rfl (lv_room (Nat.le_of_ble_eq_true rfl)) dX3_init_90 ⟨Nat.le_of_ble_eq_true rfl, Nat.le_of_ble_eq_true rfl⟩) hH (fun H locs hH => ?_)
  refine b_aast hx hb (ci := 0) (r := (RX0, TX0, 9)) rfl hK (hK.2 3 _ rfl).2 hH 5 9 (by omega) (by omega) rfl rfl (vp_in_nI (n := 2) (by omega) (by omega)) dX3_init_93 (fun H locs hH => ?_)
  refine lv_iinc (v := 3) (lv' := [(1, .int 3), (0, .ref n)]) hx hb dX3_init_94 hl (k := 0) rfl (by decide) (by decide) rfl (fun ls hl => ?_)
  refine lv_goto (tgt := 75) hx hb dX3_init_97 (by decide) ?_
  refine lv_iload_n hx hb dX3_init_75 rfl (lv_at hl 0 rfl) ?_
  refine lv_bipush (v := 8) hx hb dX3_init_76 (by decide) ?_
  refine lv_icmp_ge (tgt := 100) hx hb dX3_init_78 (by decide) (fun c1 => absurd c1 (by decide)) (fun _ => ?_)
  refine lv_aload_n hx hb dX3_init_81 rfl (lv_at hl 1 rfl) ?_
  refine b_get hx hb hts inlX3 hown hK hH 0 (by omega) (fs := [.ref (n + 1), .ref (n + 2), .ref (n + 3), .ref (n + 4), .ref (n + 5), .ref (n + 6), .int 0, .int 0, .int 0, .int 0, .int 0, .int 0]) rfl (ci := 3) rfl 4 (by omega) gfX3_26 rfl rfl dX3_init_82 ?_
  refine lv_iload_n hx hb dX3_init_85 rfl (lv_at hl 0 rfl) ?_
  refine b_new hx hb hts inlX0 tyX0 tyX0_ok hown (hts _ gclX3_24) (hts _ gx_RX0) (hts _ gi_RX0) hK hH (ci := 0) rfl dfX0 (Nat.le_of_ble_eq_true rfl) (Nat.le_of_ble_eq_true rfl) dX3_init_86 (fun H hH => ?_)
  refine lv_dup hx hb dX3_init_89 rfl ?_
  refine b_join (va_runIN (As := []) (rest := [.ref (n + 10), .int 3, .ref (n + 5)]) S (ci_X0 l (n + 10)) ⟨va_cnB 0 hts (gw_C gc_X0_init) rfl rfl rfl hnx.1 (hts _ gi_RX0) (by decide +kernel) ⟨Nat.le_of_ble_eq_true rfl, Nat.le_of_ble_eq_true rfl⟩, rfl, hts _ gn_X0_init⟩ ⟨preI_bl, fun U hU hW => ⟨rfl, by rw [hU]; exact hH.1.1, by rw [hU]; exact hH.1.2 10 (by omega), va_K.moved hW.alike hK, nx_w hW hnx⟩⟩ rfl rfl hl.1 rfl (lv_room (Nat.le_of_ble_eq_true rfl)) dX3_init_90 ⟨Nat.le_of_ble_eq_true rfl, Nat.le_of_ble_eq_true rfl⟩) hH (fun H locs hH => ?_)
  refine b_aast hx hb (ci := 0) (r := (RX0, TX0, 9)) rfl hK (hK.2 3 _ rfl).2 hH 5 10 (by omega) (by omega) rfl rfl (vp_in_nI (n := 3) (by omega) (by omega)) dX3_init_93 (fun H locs hH => ?_)
  refine lv_iinc (v := 4) (lv' := [(1, .int 4), (0, .ref n)]) hx hb dX3_init_94 hl (k := 0) rfl (by decide) (by decide) rfl (fun ls hl => ?_)
  refine lv_goto (tgt := 75) hx hb dX3_init_97 (by decide) ?_
  refine lv_iload_n hx hb dX3_init_75 rfl (lv_at hl 0 rfl) ?_
  refine lv_bipush (v := 8) hx hb dX3_init_76 (by decide) ?_
  refine lv_icmp_ge (tgt := 100) hx hb dX3_init_78 (by decide) (fun c1 => absurd c1 (by decide)) (fun _ => ?_)
  refine lv_aload_n hx hb dX3_init_81 rfl (lv_at hl 1 rfl) ?_
  refine b_get hx hb hts inlX3 hown hK hH 0 (by omega) (fs := [.ref (n + 1), .ref (n + 2), .ref (n + 3), .ref (n + 4), .ref (n + 5), .ref (n + 6), .int 0, .int 0, .int 0, .int 0, .int 0, .int 0]) rfl (ci := 3) rfl 4 (by omega) gfX3_26 rfl rfl dX3_init_82 ?_
  refine lv_iload_n hx hb dX3_init_85 rfl (lv_at hl 0 rfl) ?_
  refine b_new hx hb hts inlX0 tyX0 tyX0_ok hown (hts _ gclX3_24) (hts _ gx_RX0) (hts _ gi_RX0) hK hH (ci := 0) rfl dfX0 (Nat.le_of_ble_eq_true rfl) (Nat.le_of_ble_eq_true rfl) dX3_init_86 (fun H hH => ?_)
  refine lv_dup hx hb dX3_init_89 rfl ?_
  refine b_join (va_runIN (As := []) (rest := [.ref (n + 11), .int 4, .ref (n + 5)]) S (ci_X0 l (n + 11)) ⟨va_cnB 0 hts (gw_C gc_X0_init) rfl rfl rfl hnx.1 (hts _ gi_RX0) (by decide +kernel) ⟨Nat.le_of_ble_eq_true rfl, Nat.le_of_ble_eq_true rfl⟩, rfl, hts _ gn_X0_init⟩ ⟨preI_bl, fun U hU hW => ⟨rfl, by rw [hU]; exact hH.1.1, by rw [hU]; exact hH.1.2 11 (by omega), va_K.moved hW.alike hK, nx_w hW hnx⟩⟩ rfl rfl hl.1 rfl (lv_room (Nat.le_of_ble_eq_true rfl)) dX3_init_90 ⟨Nat.le_of_ble_eq_true rfl, Nat.le_of_ble_eq_true rfl⟩) hH (fun H locs hH => ?_)
  refine b_aast hx hb (ci := 0) (r := (RX0, TX0, 9)) rfl hK (hK.2 3 _ rfl).2 hH 5 11 (by omega) (by omega) rfl rfl (vp_in_nI (n := 4) (by omega) (by omega)) dX3_init_93 (fun H locs hH => ?_)
  refine lv_iinc (v := 5) (lv' := [(1, .int 5), (0, .ref n)]) hx hb dX3_init_94 hl (k := 0) rfl (by decide) (by decide) rfl (fun ls hl => ?_)
  refine lv_goto (tgt := 75) hx hb dX3_init_97 (by decide) ?_
  refine lv_iload_n hx hb dX3_init_75 rfl (lv_at hl 0 rfl) ?_
  refine lv_bipush (v := 8) hx hb dX3_init_76 (by decide) ?_
  refine lv_icmp_ge (tgt := 100) hx hb dX3_init_78 (by decide) (fun c1 => absurd c1 (by decide)) (fun _ => ?_)
  refine lv_aload_n hx hb dX3_init_81 rfl (lv_at hl 1 rfl) ?_
  refine b_get hx hb hts inlX3 hown hK hH 0 (by omega) (fs := [.ref (n + 1), .ref (n + 2), .ref (n + 3), .ref (n + 4), .ref (n + 5), .ref (n + 6), .int 0, .int 0, .int 0, .int 0, .int 0, .int 0]) rfl (ci := 3) rfl 4 (by omega) gfX3_26 rfl rfl dX3_init_82 ?_
  refine lv_iload_n hx hb dX3_init_85 rfl (lv_at hl 0 rfl) ?_
  refine b_new hx hb hts inlX0 tyX0 tyX0_ok hown (hts _ gclX3_24) (hts _ gx_RX0) (hts _ gi_RX0) hK hH (ci := 0) rfl dfX0 (Nat.le_of_ble_eq_true rfl) (Nat.le_of_ble_eq_true rfl) dX3_init_86 (fun H hH => ?_)
  refine lv_dup hx hb dX3_init_89 rfl ?_
  refine b_join (va_runIN (As := []) (rest := [.ref (n + 12), .int 5, .ref (n + 5)]) S (ci_X0 l (n + 12)) ⟨va_cnB 0 hts (gw_C gc_X0_init) rfl rfl rfl hnx.1 (hts _ gi_RX0) (by decide +kernel) ⟨Nat.le_of_ble_eq_true rfl, Nat.le_of_ble_eq_true rfl⟩, rfl, hts _ gn_X0_init⟩ ⟨preI_bl, fun U hU hW => ⟨rfl, by rw [hU]; exact hH.1.1, by rw [hU]; exact hH.1.2 12 (by omega), va_K.moved hW.alike hK, nx_w hW hnx⟩⟩ rfl rfl hl.1 rfl (lv_room (Nat.le_of_ble_eq_true rfl)) dX3_init_90 ⟨Nat.le_of_ble_eq_true rfl, Nat.le_of_ble_eq_true rfl⟩) hH (fun H locs hH => ?_)
  refine b_aast hx hb (ci := 0) (r := (RX0, TX0, 9)) rfl hK (hK.2 3 _ rfl).2 hH 5 12 (by omega) (by omega) rfl rfl (vp_in_nI (n := 5) (by omega) (by omega)) dX3_init_93 (fun H locs hH => ?_)
  refine lv_iinc (v := 6) (lv' := [(1, .int 6), (0, .ref n)]) hx hb dX3_init_94 hl (k := 0) rfl (by decide) (by decide) rfl (fun ls hl => ?_)
  refine lv_goto (tgt := 75) hx hb dX3_init_97 (by decide) ?_
  refine lv_iload_n hx hb dX3_init_75 rfl (lv_at hl 0 rfl) ?_
  refine lv_bipush (v := 8) hx hb dX3_init_76 (by decide) ?_
  refine lv_icmp_ge (tgt := 100) hx hb dX3_init_78 (by decide) (fun c1 => absurd c1 (by decide)) (fun _ => ?_)
  refine lv_aload_n hx hb dX3_init_81 rfl (lv_at hl 1 rfl) ?_
  refine b_get hx hb hts inlX3 hown hK hH 0 (by omega) (fs := [.ref (n + 1), .ref (n + 2), .ref (n + 3), .ref (n + 4), .ref (n + 5), .ref (n + 6), .int 0, .int 0, .int 0, .int 0, .int 0, .int 0]) rfl (ci := 3) rfl 4 (by omega) gfX3_26 rfl rfl dX3_init_82 ?_
  refine lv_iload_n hx hb dX3_init_85 rfl (lv_at hl 0 rfl) ?_
  refine b_new hx hb hts inlX0 tyX0 tyX0_ok hown (hts _ gclX3_24) (hts _ gx_RX0) (hts _ gi_RX0) hK hH (ci := 0) rfl dfX0 (Nat.le_of_ble_eq_true rfl) (Nat.le_of_ble_eq_true rfl) dX3_init_86 (fun H hH => ?_)
  refine lv_dup hx hb dX3_init_89 rfl ?_
  refine b_join (va_runIN (As := []) (rest := [.ref (n + 13), .int 6, .ref (n + 5)]) S (ci_X0 l (n + 13)) ⟨va_cnB 0 hts (gw_C gc_X0_init) rfl rfl rfl hnx.1 (hts _ gi_RX0) (by decide +kernel) ⟨Nat.le_of_ble_eq_true rfl, Nat.le_of_ble_eq_true rfl⟩, rfl, hts _ gn_X0_init⟩ ⟨preI_bl, fun U hU hW => ⟨rfl, by rw [hU]; exact hH.1.1, by rw [hU]; exact hH.1.2 13 (by omega), va_K.moved hW.alike hK, nx_w hW hnx⟩⟩ rfl rfl hl.1 rfl (lv_room (Nat.le_of_ble_eq_true rfl)) dX3_init_90 ⟨Nat.le_of_ble_eq_true rfl, Nat.le_of_ble_eq_true rfl⟩) hH (fun H locs hH => ?_)
  refine b_aast hx hb (ci := 0) (r := (RX0, TX0, 9)) rfl hK (hK.2 3 _ rfl).2 hH 5 13 (by omega) (by omega) rfl rfl (vp_in_nI (n := 6) (by omega) (by omega)) dX3_init_93 (fun H locs hH => ?_)
  refine lv_iinc (v := 7) (lv' := [(1, .int 7), (0, .ref n)]) hx hb dX3_init_94 hl (k := 0) rfl (by decide) (by decide) rfl (fun ls hl => ?_)
  refine lv_goto (tgt := 75) hx hb dX3_init_97 (by decide) ?_
  refine lv_iload_n hx hb dX3_init_75 rfl (lv_at hl 0 rfl) ?_
  refine lv_bipush (v := 8) hx hb dX3_init_76 (by decide) ?_
  refine lv_icmp_ge (tgt := 100) hx hb dX3_init_78 (by decide) (fun c1 => absurd c1 (by decide)) (fun _ => ?_)
  refine lv_aload_n hx hb dX3_init_81 rfl (lv_at hl 1 rfl) ?_
  refine b_get hx hb hts inlX3 hown hK hH 0 (by omega) (fs := [.ref (n + 1), .ref (n + 2), .ref (n + 3), .ref (n + 4), .ref (n + 5), .ref (n + 6), .int 0, .int 0, .int 0, .int 0, .int 0, .int 0]) rfl (ci := 3) rfl 4 (by omega) gfX3_26 rfl rfl dX3_init_82 ?_
  refine lv_iload_n hx hb dX3_init_85 rfl (lv_at hl 0 rfl) ?_
  refine b_new hx hb hts inlX0 tyX0 tyX0_ok hown (hts _ gclX3_24) (hts _ gx_RX0) (hts _ gi_RX0) hK hH (ci := 0) rfl dfX0 (Nat.le_of_ble_eq_true rfl) (Nat.le_of_ble_eq_true rfl) dX3_init_86 (fun H hH => ?_)
  refine lv_dup hx hb dX3_init_89 rfl ?_
  refine b_join (va_runIN (As := []) (rest := [.ref (n + 14), .int 7, .ref (n + 5)]) S (ci_X0 l (n + 14)) ⟨va_cnB 0 hts (gw_C gc_X0_init) rfl rfl rfl hnx.1 (hts _ gi_RX0) (by decide +kernel) ⟨Nat.le_of_ble_eq_true rfl, Nat.le_of_ble_eq_true rfl⟩, rfl, hts _ gn_X0_init⟩ ⟨preI_bl, fun U hU hW => ⟨rfl, by rw [hU]; exact hH.1.1, by rw [hU]; exact hH.1.2 14 (by omega), va_K.moved hW.alike hK, nx_w hW hnx⟩⟩ rfl rfl hl.1 rfl (lv_room (Nat.le_of_ble_eq_true rfl)) dX3_init_90 ⟨Nat.le_of_ble_eq_true rfl, Nat.le_of_ble_eq_true rfl⟩) hH (fun H locs hH => ?_)
  refine b_aast hx hb (ci := 0) (r := (RX0, TX0, 9)) rfl hK (hK.2 3 _ rfl).2 hH 5 14 (by omega) (by omega) rfl rfl (vp_in_nI (n := 7) (by omega) (by omega)) dX3_init_93 (fun H locs hH => ?_)
  refine lv_iinc (v := 8) (lv' := [(1, .int 8), (0, .ref n)]) hx hb dX3_init_94 hl (k := 0) rfl (by decide) (by decide) rfl (fun ls hl => ?_)
  refine lv_goto (tgt := 75) hx hb dX3_init_97 (by decide) ?_
  refine lv_iload_n hx hb dX3_init_75 rfl (lv_at hl 0 rfl) ?_
  refine lv_bipush (v := 8) hx hb dX3_init_76 (by decide) ?_
  refine lv_icmp_ge (tgt := 100) hx hb dX3_init_78 (by decide) (fun _ => ?_) (fun c1 => absurd (by decide) c1)
  refine lv_aload_n hx hb dX3_init_100 rfl (lv_at hl 1 rfl) ?_
  refine b_get hx hb hts inlX3 hown hK hH 0 (by omega) (fs := [.ref (n + 1), .ref (n + 2), .ref (n + 3), .ref (n + 4), .ref (n + 5), .ref (n + 6), .int 0, .int 0, .int 0, .int 0, .int 0, .int 0]) rfl (ci := 3) rfl 3 (by omega) gfX3_21 rfl rfl dX3_init_101 ?_
  refine lv_iconst (v := 0) hx hb dX3_init_104 (by decide) ?_
  refine lv_iconst (v := 2) hx hb dX3_init_105 (by decide) ?_
  refine b_iast hx hb (hK.2 0 _ rfl).1 hH 4 (by omega) rfl (vp_in_nI (n := 0) (by omega) (by omega)) dX3_init_106 (fun H locs hH => ?_)
  refine lv_aload_n hx hb dX3_init_107 rfl (lv_at hl 1 rfl) ?_
  refine b_get hx hb hts inlX3 hown hK hH 0 (by omega) (fs := [.ref (n + 1), .ref (n + 2), .ref (n + 3), .ref (n + 4), .ref (n + 5), .ref (n + 6), .int 0, .int 0, .int 0, .int 0, .int 0, .int 0]) rfl (ci := 3) rfl 3 (by omega) gfX3_21 rfl rfl dX3_init_108 ?_
  refine lv_iconst (v := 1) hx hb dX3_init_111 (by decide) ?_
  refine lv_bipush (v := 6) hx hb dX3_init_112 (by decide) ?_
  refine b_iast hx hb (hK.2 0 _ rfl).1 hH 4 (by omega) rfl (vp_in_nI (n := 1) (by omega) (by omega)) dX3_init_114 (fun H locs hH => ?_)
  refine lv_aload_n hx hb dX3_init_115 rfl (lv_at hl 1 rfl) ?_
  refine b_get hx hb hts inlX3 hown hK hH 0 (by omega) (fs := [.ref (n + 1), .ref (n + 2), .ref (n + 3), .ref (n + 4), .ref (n + 5), .ref (n + 6), .int 0, .int 0, .int 0, .int 0, .int 0, .int 0]) rfl (ci := 3) rfl 3 (by omega) gfX3_21 rfl rfl dX3_init_116 ?_
  refine lv_iconst (v := 2) hx hb dX3_init_119 (by decide) ?_
  refine lv_iconst (v := 1) hx hb dX3_init_120 (by decide) ?_
  refine b_iast hx hb (hK.2 0 _ rfl).1 hH 4 (by omega) rfl (vp_in_nI (n := 2) (by omega) (by omega)) dX3_init_121 (fun H locs hH => ?_)
  refine W.widen (k := 14) (n := 181) (Nat.le_of_ble_eq_true rfl) (Nat.le_of_ble_eq_true rfl) ?_
  have hH2 : bH D (fun r => stE Y (fun x => n + x) 0 r s0 (fun _ => 0)) n 15 s _ _ := bH_e hH (fun r hr => by
    rcases (show r = 0 ∨ r = 1 ∨ r = 2 ∨ r = 3 ∨ r = 4 ∨ r = 5 ∨ r = 6 ∨ r = 7 ∨ r = 8 ∨ r = 9 ∨ r = 10 ∨ r = 11 ∨ r = 12 ∨ r = 13 ∨ r = 14 by omega) with rfl | rfl | rfl | rfl | rfl | rfl | rfl | rfl | rfl | rfl | rfl | rfl | rfl | rfl | rfl
    · rfl
    · show _ = Sum.inl (Y.1, 30, Sum.inl (cut 30 0 s0)); rw [cu_1]; rfl
    · show _ = Sum.inl (Y.1, 30, Sum.inl (cut 30 30 s0)); rw [cu_2]; rfl
    · show _ = Sum.inl (Y.1, 30, Sum.inl (cut 30 60 s0)); rw [cu_3]; rfl
    · show _ = Sum.inl (Y.1, 3, Sum.inl (cut 3 168 s0)); rw [cu_4]; rfl
    · show _ = Sum.inl (Y.2.2.2.1, 8, Sum.inr (Sum.inr (Sum.inr (Sum.inr (fun i => if i < 8 then some (n + (0 + (i + 7))) else none))))); rw [cu_5 n]; rfl
    · show _ = Sum.inl (Y.1, 8, Sum.inl (cut 8 0 (fun _ => 0))); rw [cu_0]; rfl
    · rfl
    · rfl
    · rfl
    · rfl
    · rfl
    · rfl
    · rfl
    · rfl)
  exact W.vret hx hb hr (fun t ht hW => ⟨⟨(), rfl, trivial, b_end ht hH2⟩, hH2.2.F ht⟩) hH2.2.2.2 dX3_init_122 hlk
