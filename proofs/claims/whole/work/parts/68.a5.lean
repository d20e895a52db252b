set_option maxRecDepth 100000 in
set_option maxHeartbeats 8000000 in
theorem ci_X5 (l : Launch) {D : va_G} {cI cZ : ClassId} (n : Nat) : Met l yX5_init uX5_init rmi5 (va_Pc [.ref n] (preI D (mTys cI cZ) n 5 [.null, .null, .null, .int 0, .null, .null, .null, .int 0, .int 0, .null, .null, .int 0, .int 0, .int 0, .int 0, .int 0])) (va_Qv (fun _ : Unit => True) (fun _ t9 => t9.heap.size = n + 9 ∧ ∀ r, r < 9 → va_at D vwCl (n + r, (lE [.inr (5, [.ref (n + 1), .ref (n + 2), .ref (n + 3), .int 0, .ref (n + 4), .ref (n + 5), .ref (n + 6), .int 0, .int 0, .ref (n + 7), .ref (n + 8), .int 0, .int 0, .int 0, .int 0, .int 0]), .inl (cI, 171, .inl s0), .inl (cI, 171, .inl (fun _ => 0)), .inl (cI, 1026, .inl (fun _ => 0)), .inl (cI, 342, .inl (fun _ => 0)), .inl (cZ, 2, .inl (fun _ => 0)), .inl (cI, 60, .inl (fun _ => 0)), .inl (cI, 8, .inl (fun _ => 0)), .inl (cZ, 8, .inl (fun _ => 0))]) r) t9.heap) (fun q => n ≤ q)) 8 1788 (fun q => n ≤ q) := by
  refine Met.ofW (cc := cX5_init) (maxL := 2) (ret := none) (by decide) rfl ?_
  intro p e s m args below meth c s₁ B hml hv
  obtain ⟨rfl, hsz, hat, hK, hnx⟩ := hv
  have hx := B.exec
  have hb := B.bytes
  have hr := B.returns
  have hlk := B.notSynchronized
  have hin2 : meth.name = "<init>" := (name_of_methodNamed B.named B.method).1
  have hown : s.vm.findClass RX5 = some m.cls := findClass_of_methodNamed B.named
  have hts : ∀ w ∈ gw, w.before ([.ref n] : List Value).toArray s = true := fun w h => atoms_spec (ws := uX5_init) B.pre w (List.mem_cons_of_mem _ h)
  have S : CallFix p m c cX5_init 2 s ([.ref n] : List Value).toArray gw RX5 := ⟨hx, hb, hml, hown, hts⟩
  have hl := lv_entry ([.ref n]) (n := 2) (Nat.le_of_ble_eq_true rfl)
  rw [lg_entry_eq]
  generalize (lg_sl ([.ref n]) ++ List.replicate (2 - (lg_sl ([.ref n])).length) Slot.unset).toArray = ls at hl ⊢
  have hl : lv_has ls 2 [(0, .ref n)] := hl
  have hH : bH D (fun _ => .inr (5, [.null, .null, .null, .int 0, .null, .null, .null, .int 0, .int 0, .null, .null, .int 0, .int 0, .int 0, .int 0, .int 0])) n 1 s s.heap [] := b_one hsz hat
  refine lv_aload_n hx hb dX5_init_0 rfl (lv_at hl 0 rfl) ?_
  refine W.objInit hx hb hown (hts _ gmX5_1) (hts _ gl_instanceMethod_objectInit) (hts _ gl_code_objectInit) rfl (hl.1.trans hml.symm) rfl dX5_init_1 (Nat.le_of_ble_eq_true rfl) (Nat.le_of_ble_eq_true rfl) ?_
  change W _ _ _ _ _ _ _ _ _ _ _ _ _ _ _ (F0 m 4 ls [])
  refine lv_aload_n hx hb dX5_init_4 rfl (lv_at hl 0 rfl) ?_
  refine lv_sipush (v := 171) hx hb dX5_init_5 (by decide) ?_
  refine b_newa (atype := .int) (ty := .int) hx hb (hts _ ga_int) rfl (hK.2 0 _ rfl).2 hH (a0 := (171, .inl (fun _ => 0))) (N := 171) (fun _ => rfl) (by decide) (by decide) (Nat.le_of_ble_eq_true rfl) (Nat.le_of_ble_eq_true rfl) (Nat.le_of_ble_eq_true rfl) dX5_init_8 (fun H hH => ?_)
  refine b_putF hx hb hts inlX5 tyX5 tyX5_ok nmX5 hown hK hH 0 (by omega) (fs := [.null, .null, .null, .int 0, .null, .null, .null, .int 0, .int 0, .null, .null, .int 0, .int 0, .int 0, .int 0, .int 0]) rfl (ci := 5) rfl 0 (by omega) gfX5_7 rfl rfl hin2 (ty := tyX5 0) (tyX5_ok 0 (by omega)) rfl rfl (Nat.le_of_ble_eq_true rfl) dX5_init_10 (fun H locs hH => ?_)
  refine lv_aload_n hx hb dX5_init_13 rfl (lv_at hl 0 rfl) ?_
  refine lv_sipush (v := 171) hx hb dX5_init_14 (by decide) ?_
  refine b_newa (atype := .int) (ty := .int) hx hb (hts _ ga_int) rfl (hK.2 0 _ rfl).2 hH (a0 := (171, .inl (fun _ => 0))) (N := 171) (fun _ => rfl) (by decide) (by decide) (Nat.le_of_ble_eq_true rfl) (Nat.le_of_ble_eq_true rfl) (Nat.le_of_ble_eq_true rfl) dX5_init_17 (fun H hH => ?_)
  refine b_putF hx hb hts inlX5 tyX5 tyX5_ok nmX5 hown hK hH 0 (by omega) (fs := [.ref (n + 1), .null, .null, .int 0, .null, .null, .null, .int 0, .int 0, .null, .null, .int 0, .int 0, .int 0, .int 0, .int 0]) rfl (ci := 5) rfl 1 (by omega) gfX5_13 rfl rfl hin2 (ty := tyX5 1) (tyX5_ok 1 (by omega)) rfl rfl (Nat.le_of_ble_eq_true rfl) dX5_init_19 (fun H locs hH => ?_)
  refine lv_aload_n hx hb dX5_init_22 rfl (lv_at hl 0 rfl) ?_
  refine lv_sipush (v := 1026) hx hb dX5_init_23 (by decide) ?_
  refine b_newa (atype := .int) (ty := .int) hx hb (hts _ ga_int) rfl (hK.2 0 _ rfl).2 hH (a0 := (1026, .inl (fun _ => 0))) (N := 1026) (fun _ => rfl) (by decide) (by decide) (Nat.le_of_ble_eq_true rfl) (Nat.le_of_ble_eq_true rfl) (Nat.le_of_ble_eq_true rfl) dX5_init_26 (fun H hH => ?_)
  refine b_putF hx hb hts inlX5 tyX5 tyX5_ok nmX5 hown hK hH 0 (by omega) (fs := [.ref (n + 1), .ref (n + 2), .null, .int 0, .null, .null, .null, .int 0, .int 0, .null, .null, .int 0, .int 0, .int 0, .int 0, .int 0]) rfl (ci := 5) rfl 2 (by omega) gfX5_16 rfl rfl hin2 (ty := tyX5 2) (tyX5_ok 2 (by omega)) rfl rfl (Nat.le_of_ble_eq_true rfl) dX5_init_28 (fun H locs hH => ?_)
  refine lv_aload_n hx hb dX5_init_31 rfl (lv_at hl 0 rfl) ?_
  refine lv_sipush (v := 342) hx hb dX5_init_32 (by decide) ?_
  refine b_newa (atype := .int) (ty := .int) hx hb (hts _ ga_int) rfl (hK.2 0 _ rfl).2 hH (a0 := (342, .inl (fun _ => 0))) (N := 342) (fun _ => rfl) (by decide) (by decide) (Nat.le_of_ble_eq_true rfl) (Nat.le_of_ble_eq_true rfl) (Nat.le_of_ble_eq_true rfl) dX5_init_35 (fun H hH => ?_)
  refine b_putF hx hb hts inlX5 tyX5 tyX5_ok nmX5 hown hK hH 0 (by omega) (fs := [.ref (n + 1), .ref (n + 2), .ref (n + 3), .int 0, .null, .null, .null, .int 0, .int 0, .null, .null, .int 0, .int 0, .int 0, .int 0, .int 0]) rfl (ci := 5) rfl 4 (by omega) gfX5_19 rfl rfl hin2 (ty := tyX5 4) (tyX5_ok 4 (by omega)) rfl rfl (Nat.le_of_ble_eq_true rfl) dX5_init_37 (fun H locs hH => ?_)
  refine lv_aload_n hx hb dX5_init_40 rfl (lv_at hl 0 rfl) ?_
  refine lv_iconst (v := 2) hx hb dX5_init_41 (by decide) ?_
  refine b_newa (atype := .boolean) (ty := .boolean) hx hb (hts _ ga_boolean) rfl (hK.2 1 _ rfl).2 hH (a0 := (2, .inl (fun _ => 0))) (N := 2) (fun _ => rfl) (by decide) (by decide) (Nat.le_of_ble_eq_true rfl) (Nat.le_of_ble_eq_true rfl) (Nat.le_of_ble_eq_true rfl) dX5_init_42 (fun H hH => ?_)
  refine b_putF hx hb hts inlX5 tyX5 tyX5_ok nmX5 hown hK hH 0 (by omega) (fs := [.ref (n + 1), .ref (n + 2), .ref (n + 3), .int 0, .ref (n + 4), .null, .null, .int 0, .int 0, .null, .null, .int 0, .int 0, .int 0, .int 0, .int 0]) rfl (ci := 5) rfl 5 (by omega) gfX5_22 rfl rfl hin2 (ty := tyX5 5) (tyX5_ok 5 (by omega)) rfl rfl (Nat.le_of_ble_eq_true rfl) dX5_init_44 (fun H locs hH => ?_)
  refine lv_aload_n hx hb dX5_init_47 rfl (lv_at hl 0 rfl) ?_
  refine lv_bipush (v := 60) hx hb dX5_init_48 (by decide) ?_
  refine b_newa (atype := .int) (ty := .int) hx hb (hts _ ga_int) rfl (hK.2 0 _ rfl).2 hH (a0 := (60, .inl (fun _ => 0))) (N := 60) (fun _ => rfl) (by decide) (by decide) (Nat.le_of_ble_eq_true rfl) (Nat.le_of_ble_eq_true rfl) (Nat.le_of_ble_eq_true rfl) dX5_init_50 (fun H hH => ?_)
  refine b_putF hx hb hts inlX5 tyX5 tyX5_ok nmX5 hown hK hH 0 (by omega) (fs := [.ref (n + 1), .ref (n + 2), .ref (n + 3), .int 0, .ref (n + 4), .ref (n + 5), .null, .int 0, .int 0, .null, .null, .int 0, .int 0, .int 0, .int 0, .int 0]) rfl (ci := 5) rfl 6 (by omega) gfX5_26 rfl rfl hin2 (ty := tyX5 6) (tyX5_ok 6 (by omega)) rfl rfl (Nat.le_of_ble_eq_true rfl) dX5_init_52 (fun H locs hH => ?_)
  refine lv_aload_n hx hb dX5_init_55 rfl (lv_at hl 0 rfl) ?_
  refine lv_bipush (v := 8) hx hb dX5_init_56 (by decide) ?_
  refine b_newa (atype := .int) (ty := .int) hx hb (hts _ ga_int) rfl (hK.2 0 _ rfl).2 hH (a0 := (8, .inl (fun _ => 0))) (N := 8) (fun _ => rfl) (by decide) (by decide) (Nat.le_of_ble_eq_true rfl) (Nat.le_of_ble_eq_true rfl) (Nat.le_of_ble_eq_true rfl) dX5_init_58 (fun H hH => ?_)
  refine b_putF hx hb hts inlX5 tyX5 tyX5_ok nmX5 hown hK hH 0 (by omega) (fs := [.ref (n + 1), .ref (n + 2), .ref (n + 3), .int 0, .ref (n + 4), .ref (n + 5), .ref (n + 6), .int 0, .int 0, .null, .null, .int 0, .int 0, .int 0, .int 0, .int 0]) rfl (ci := 5) rfl 9 (by omega) gfX5_29 rfl rfl hin2 (ty := tyX5 9) (tyX5_ok 9 (by omega)) rfl rfl (Nat.le_of_ble_eq_true rfl) dX5_init_60 (fun H locs hH => ?_)
  refine lv_aload_n hx hb dX5_init_63 rfl (lv_at hl 0 rfl) ?_
  refine lv_bipush (v := 8) hx hb dX5_init_64 (by decide) ?_
  refine b_newa (atype := .boolean) (ty := .boolean) hx hb (hts _ ga_boolean) rfl (hK.2 1 _ rfl).2 hH (a0 := (8, .inl (fun _ => 0))) (N := 8) (fun _ => rfl) (by decide) (by decide) (Nat.le_of_ble_eq_true rfl) (Nat.le_of_ble_eq_true rfl) (Nat.le_of_ble_eq_true rfl) dX5_init_66 (fun H hH => ?_)
  refine b_putF hx hb hts inlX5 tyX5 tyX5_ok nmX5 hown hK hH 0 (by omega) (fs := [.ref (n + 1), .ref (n + 2), .ref (n + 3), .int 0, .ref (n + 4), .ref (n + 5), .ref (n + 6), .int 0, .int 0, .ref (n + 7), .null, .int 0, .int 0, .int 0, .int 0, .int 0]) rfl (ci := 5) rfl 10 (by omega) gfX5_32 rfl rfl hin2 (ty := tyX5 10) (tyX5_ok 10 (by omega)) rfl rfl (Nat.le_of_ble_eq_true rfl) dX5_init_68 (fun H locs hH => ?_)
  refine lv_iconst (v := 0) hx hb dX5_init_71 (by decide) ?_
  refine lv_istore_n (lv' := [(1, .int 0), (0, .ref n)]) hx hb dX5_init_72 rfl hl (by decide) rfl (fun ls hl => ?_)
  have hH7 : bH D (eu (lE [.inr (5, [.ref (n + 1), .ref (n + 2), .ref (n + 3), .int 0, .ref (n + 4), .ref (n + 5), .ref (n + 6), .int 0, .int 0, .ref (n + 7), .ref (n + 8), .int 0, .int 0, .int 0, .int 0, .int 0]), .inl (cI, 171, .inl (fun _ => 0)), .inl (cI, 171, .inl (fun _ => 0)), .inl (cI, 1026, .inl (fun _ => 0)), .inl (cI, 342, .inl (fun _ => 0)), .inl (cZ, 2, .inl (fun _ => 0)), .inl (cI, 60, .inl (fun _ => 0)), .inl (cI, 8, .inl (fun _ => 0)), .inl (cZ, 8, .inl (fun _ => 0))]) 1 (.inl (cI, 171, .inl (gfl 0)))) n 9 s _ _ := bH_e hH (fun r hr => by
      rcases (show r = 0 ∨ r = 1 ∨ r = 2 ∨ r = 3 ∨ r = 4 ∨ r = 5 ∨ r = 6 ∨ r = 7 ∨ r = 8 by omega) with rfl | rfl | rfl | rfl | rfl | rfl | rfl | rfl | rfl
      · rfl
      · rw [gf_0]; rfl
      · rfl
      · rfl
      · rfl
      · rfl
      · rfl
      · rfl
      · rfl)
  refine lX5_fill S hK (hK.2 0 _ rfl).1 (E := lE [.inr (5, [.ref (n + 1), .ref (n + 2), .ref (n + 3), .int 0, .ref (n + 4), .ref (n + 5), .ref (n + 6), .int 0, .int 0, .ref (n + 7), .ref (n + 8), .int 0, .int 0, .int 0, .int 0, .int 0]), .inl (cI, 171, .inl (fun _ => 0)), .inl (cI, 171, .inl (fun _ => 0)), .inl (cI, 1026, .inl (fun _ => 0)), .inl (cI, 342, .inl (fun _ => 0)), .inl (cZ, 2, .inl (fun _ => 0)), .inl (cI, 60, .inl (fun _ => 0)), .inl (cI, 8, .inl (fun _ => 0)), .inl (cZ, 8, .inl (fun _ => 0))]) (fs := [.ref (n + 1), .ref (n + 2), .ref (n + 3), .int 0, .ref (n + 4), .ref (n + 5), .ref (n + 6), .int 0, .int 0, .ref (n + 7), .ref (n + 8), .int 0, .int 0, .int 0, .int 0, .int 0]) rfl rfl (by omega) (fun H locs ls hH hl => ?_) 30 0 _ _ ls (by omega) hH7 (lv_sub hl [0, 1] rfl)
  refine lv_aload_n hx hb dX5_init_94 rfl (lv_at hl 1 rfl) ?_
  refine b_get hx hb hts inlX5 hown hK hH 0 (by omega) (fs := [.ref (n + 1), .ref (n + 2), .ref (n + 3), .int 0, .ref (n + 4), .ref (n + 5), .ref (n + 6), .int 0, .int 0, .ref (n + 7), .ref (n + 8), .int 0, .int 0, .int 0, .int 0, .int 0]) rfl (ci := 5) rfl 0 (by omega) gfX5_7 rfl rfl dX5_init_95 ?_
  refine lv_sipush (v := 168) hx hb dX5_init_98 (by decide) ?_
  refine lv_iconst (v := 2) hx hb dX5_init_101 (by decide) ?_
  refine b_iast hx hb (hK.2 0 _ rfl).1 hH 1 (by omega) rfl (vp_in_nI (n := 168) (by omega) (by omega)) dX5_init_102 (fun H locs hH => ?_)
  refine lv_aload_n hx hb dX5_init_103 rfl (lv_at hl 1 rfl) ?_
  refine b_get hx hb hts inlX5 hown hK hH 0 (by omega) (fs := [.ref (n + 1), .ref (n + 2), .ref (n + 3), .int 0, .ref (n + 4), .ref (n + 5), .ref (n + 6), .int 0, .int 0, .ref (n + 7), .ref (n + 8), .int 0, .int 0, .int 0, .int 0, .int 0]) rfl (ci := 5) rfl 0 (by omega) gfX5_7 rfl rfl dX5_init_104 ?_
  refine lv_sipush (v := 169) hx hb dX5_init_107 (by decide) ?_
  refine lv_bipush (v := 6) hx hb dX5_init_110 (by decide) ?_
  refine b_iast hx hb (hK.2 0 _ rfl).1 hH 1 (by omega) rfl (vp_in_nI (n := 169) (by omega) (by omega)) dX5_init_112 (fun H locs hH => ?_)
  refine lv_aload_n hx hb dX5_init_113 rfl (lv_at hl 1 rfl) ?_
  refine b_get hx hb hts inlX5 hown hK hH 0 (by omega) (fs := [.ref (n + 1), .ref (n + 2), .ref (n + 3), .int 0, .ref (n + 4), .ref (n + 5), .ref (n + 6), .int 0, .int 0, .ref (n + 7), .ref (n + 8), .int 0, .int 0, .int 0, .int 0, .int 0]) rfl (ci := 5) rfl 0 (by omega) gfX5_7 rfl rfl dX5_init_114 ?_
  refine lv_sipush (v := 170) hx hb dX5_init_117 (by decide) ?_
  refine lv_iconst (v := 1) hx hb dX5_init_120 (by decide) ?_
  refine b_iast hx hb (hK.2 0 _ rfl).1 hH 1 (by omega) rfl (vp_in_nI (n := 170) (by omega) (by omega)) dX5_init_121 (fun H locs hH => ?_)
  refine W.widen (k := 8) (n := 1788) (Nat.le_of_ble_eq_true rfl) (Nat.le_of_ble_eq_true rfl) ?_
  have hH2 : bH D (lE [.inr (5, [.ref (n + 1), .ref (n + 2), .ref (n + 3), .int 0, .ref (n + 4), .ref (n + 5), .ref (n + 6), .int 0, .int 0, .ref (n + 7), .ref (n + 8), .int 0, .int 0, .int 0, .int 0, .int 0]), .inl (cI, 171, .inl s0), .inl (cI, 171, .inl (fun _ => 0)), .inl (cI, 1026, .inl (fun _ => 0)), .inl (cI, 342, .inl (fun _ => 0)), .inl (cZ, 2, .inl (fun _ => 0)), .inl (cI, 60, .inl (fun _ => 0)), .inl (cI, 8, .inl (fun _ => 0)), .inl (cZ, 8, .inl (fun _ => 0))]) n 9 s _ _ := bH_e hH (fun r hr => by
    rcases (show r = 0 ∨ r = 1 ∨ r = 2 ∨ r = 3 ∨ r = 4 ∨ r = 5 ∨ r = 6 ∨ r = 7 ∨ r = 8 by omega) with rfl | rfl | rfl | rfl | rfl | rfl | rfl | rfl | rfl
    · rfl
    · show _ = Sum.inl (cI, 171, Sum.inl s0); rw [← cu_s]; rfl
    · rfl
    · rfl
    · rfl
    · rfl
    · rfl
    · rfl
    · rfl)
  exact W.vret hx hb hr (fun t ht hW => ⟨⟨(), rfl, trivial, b_end ht hH2⟩, hH2.2.F ht⟩) hH2.2.2.2 dX5_init_122 hlk
