set_option maxRecDepth 100000 in
set_option maxHeartbeats 8000000 in
theorem ci_X0 (l : Launch) {D : va_G} {Y : cYt} (n : Nat) : Met l yX0_init uX0_init rmi0 (va_Pc [.ref n] (preI D (cTys Y) n 0 [.int 0, .int 0, .int 0, .int 0, .int 0, .int 0, .int 0, .int 0, .int 0])) (va_Qv (fun _ : Unit => True) (fun _ t9 => t9.heap.size = n + 1 ∧ ∀ r, r < 1 → va_at D vwCl (n + r, (fun _ => .inr (0, [.int 0, .int 0, .int 0, .int 0, .int 0, .int 0, .int 0, .int 0, .int 0])) r) t9.heap) (fun q => n ≤ q)) 0 0 (fun q => n ≤ q) := by
  refine Met.ofW (cc := cX0_init) (maxL := 1) (ret := none) (by decide) rfl ?_
  intro p e s m args below meth c s₁ B hml hv
  obtain ⟨rfl, hsz, hat, hK, hnx⟩ := hv
  have hx := B.exec
  have hb := B.bytes
  have hr := B.returns
  have hlk := B.notSynchronized
  have hin2 : meth.name = "<init>" := (name_of_methodNamed B.named B.method).1
  have hown : s.vm.findClass RX0 = some m.cls := findClass_of_methodNamed B.named
  have hts : ∀ w ∈ gw, w.before ([.ref n] : List Value).toArray s = true := fun w h => atoms_spec (ws := uX0_init) B.pre w (List.mem_cons_of_mem _ h)
  have S : CallFix p m c cX0_init 1 s ([.ref n] : List Value).toArray gw RX0 := ⟨hx, hb, hml, hown, hts⟩
  have hl := lv_entry ([.ref n]) (n := 1) (Nat.le_of_ble_eq_true rfl)
  rw [lg_entry_eq]
  generalize (lg_sl ([.ref n]) ++ List.replicate (1 - (lg_sl ([.ref n])).length) Slot.unset).toArray = ls at hl ⊢
  have hl : lv_has ls 1 [(0, .ref n)] := hl
  have hH : bH D (fun _ => .inr (0, [.int 0, .int 0, .int 0, .int 0, .int 0, .int 0, .int 0, .int 0, .int 0])) n 1 s s.heap [] := b_one hsz hat
  refine lv_aload_n hx hb dX0_init_0 rfl (lv_at hl 0 rfl) ?_
  refine W.objInit hx hb hown (hts _ gmX0_3) (hts _ gl_instanceMethod_objectInit) (hts _ gl_code_objectInit) rfl (hl.1.trans hml.symm) rfl dX0_init_1 (Nat.le_of_ble_eq_true rfl) (Nat.le_of_ble_eq_true rfl) ?_
  change W _ _ _ _ _ _ _ _ _ _ _ _ _ _ _ (F0 m 4 ls [])
  refine W.widen (k := 0) (n := 0) (Nat.le_of_ble_eq_true rfl) (Nat.le_of_ble_eq_true rfl) ?_
  have hH2 : bH D (fun _ => .inr (0, [.int 0, .int 0, .int 0, .int 0, .int 0, .int 0, .int 0, .int 0, .int 0])) n 1 s _ _ := bH_e hH (fun r hr => rfl)
  exact W.vret hx hb hr (fun t ht hW => ⟨⟨(), rfl, trivial, b_end ht hH2⟩, hH2.2.F ht⟩) hH2.2.2.2 dX0_init_4 hlk
