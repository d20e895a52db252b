set_option maxRecDepth 100000 in
set_option maxHeartbeats 8000000 in
theorem ci_X2 (l : Launch) {D : va_G} {Y : cYt} (n : Nat) : Met l yX2_init uX2_init rmi2 (va_Pc [.ref n] (preI D (cTys Y) n 2 [.null, .int 0])) (va_Qv (fun _ : Unit => True) (fun _ t9 => t9.heap.size = n + 2 ∧ ∀ r, r < 2 → va_at D vwCl (n + r, (eu (fun _ => .inr (2, [.ref (n + 1), .int 0])) 1 (.inl (Y.2.1, 60, .inl (fun _ => 0)))) r) t9.heap) (fun q => n ≤ q)) 1 60 (fun q => n ≤ q) := by
  refine Met.ofW (cc := cX2_init) (maxL := 1) (ret := none) (by decide) rfl ?_
  intro p e s m args below meth c s₁ B hml hv
  obtain ⟨rfl, hsz, hat, hK, hnx⟩ := hv
  have hx := B.exec
  have hb := B.bytes
  have hr := B.returns
  have hlk := B.notSynchronized
  have hin2 : meth.name = "<init>" := (name_of_methodNamed B.named B.method).1
  have hown : s.vm.findClass RX2 = some m.cls := findClass_of_methodNamed B.named
  have hts : ∀ w ∈ gw, w.before ([.ref n] : List Value).toArray s = true := fun w h => atoms_spec (ws := uX2_init) B.pre w (List.mem_cons_of_mem _ h)
  have S : CallFix p m c cX2_init 1 s ([.ref n] : List Value).toArray gw RX2 := ⟨hx, hb, hml, hown, hts⟩
  have hl := lv_entry ([.ref n]) (n := 1) (Nat.le_of_ble_eq_true rfl)
  rw [lg_entry_eq]
  generalize (lg_sl ([.ref n]) ++ List.replicate (1 - (lg_sl ([.ref n])).length) Slot.unset).toArray = ls at hl ⊢
  have hl : lv_has ls 1 [(0, .ref n)] := hl
  have hH : bH D (fun _ => .inr (2, [.null, .int 0])) n 1 s s.heap [] := b_one hsz hat
  refine lv_aload_n hx hb dX2_init_0 rfl (lv_at hl 0 rfl) ?_
  refine W.objInit hx hb hown (hts _ gmX2_3) (hts _ gl_instanceMethod_objectInit) (hts _ gl_code_objectInit) rfl (hl.1.trans hml.symm) rfl dX2_init_1 (Nat.le_of_ble_eq_true rfl) (Nat.le_of_ble_eq_true rfl) ?_
  change W _ _ _ _ _ _ _ _ _ _ _ _ _ _ _ (F0 m 4 ls [])
  refine lv_aload_n hx hb dX2_init_4 rfl (lv_at hl 0 rfl) ?_
  refine lv_bipush (v := 60) hx hb dX2_init_5 (by decide) ?_
  refine b_newa (atype := .char) (ty := .char) hx hb (hts _ ga_char) rfl (hK.2 1 _ rfl).2 hH (a0 := (60, .inl (fun _ => 0))) (N := 60) (fun _ => rfl) (by decide) (by decide) (Nat.le_of_ble_eq_true rfl) (Nat.le_of_ble_eq_true rfl) (Nat.le_of_ble_eq_true rfl) dX2_init_7 (fun H hH => ?_)
  refine b_putF hx hb hts inlX2 tyX2 tyX2_ok nmX2 hown hK hH 0 (by omega) (fs := [.null, .int 0]) rfl (ci := 2) rfl 0 (by omega) gfX2_9 rfl rfl hin2 (ty := tyX2 0) (tyX2_ok 0 (by omega)) rfl rfl (Nat.le_of_ble_eq_true rfl) dX2_init_9 (fun H locs hH => ?_)
  refine W.widen (k := 1) (n := 60) (Nat.le_of_ble_eq_true rfl) (Nat.le_of_ble_eq_true rfl) ?_
  have hH2 : bH D (eu (fun _ => .inr (2, [.ref (n + 1), .int 0])) 1 (.inl (Y.2.1, 60, .inl (fun _ => 0)))) n 2 s _ _ := bH_e hH (fun r hr => by rcases (show r = 0 ∨ r = 1 by omega) with rfl | rfl <;> rfl)
  exact W.vret hx hb hr (fun t ht hW => ⟨⟨(), rfl, trivial, b_end ht hH2⟩, hH2.2.F ht⟩) hH2.2.2.2 dX2_init_12 hlk
