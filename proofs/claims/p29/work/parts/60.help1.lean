def f6_grade_0 (x1 x2 : Int32) (mu : Nat → Nat → Int32) : Option (Int32 × (Nat → Nat → Int32)) := Option.bind (f4_grade_0 x1 x2 mu) (fun t => if t.1 = 0 then some (t.2.1, t.2.2) else if t.1 = 1 then some (-3, t.2.2) else if t.1 = 2 then some (-2, t.2.2) else none)
set_option maxRecDepth 100000 in
set_option maxHeartbeats 4000000 in
theorem h6_grade (l : Launch) {D : va_G} {Y : cYt} {ad : Nat → Nat} {mu : Nat → Nat → Int32} (hI : cInj ad) (hl0 : l.stackTraces = false) (sz : Nat) (x1 : Int32) (x2 : Int32) {t0 : Int32 × (Nat → Nat → Int32)} (hf0 : f6_grade_0 x1 x2 mu = some t0) : vx_Met l yL_grade uL_grade rmL (va_Pc [.ref (ad 150), .int x1, .int x2] (fun U => U.heap.size = sz ∧ lZ ad sz U ∧ cB D Y ad mu U)) (va_Qi (fun (r9 : Int32) (_ : Unit) => r9 = t0.1) (fun _ t9 => cB D Y ad t0.2 t9) (cA ad sz)) (vx_X (fun (_ : Unit) => False) (fun _ _ _ => True) (cA ad sz)) 3 18 (cA ad sz) := by
  obtain ⟨t, hf, hf1⟩ := bd_o hf0
  have hk : t.1 = 0 ∧ t0 = (t.2.1, t.2.2) ∨ t.1 = 1 ∧ t0 = (-3, t.2.2) ∨ t.1 = 2 ∧ t0 = (-2, t.2.2) := by
    by_cases e0 : t.1 = 0
    · exact Or.inl ⟨e0, (so_i (it_t e0 hf1)).symm⟩
    have hg0 := it_f e0 hf1
    by_cases e1 : t.1 = 1
    · exact Or.inr (Or.inl ⟨e1, (so_i (it_t e1 hg0)).symm⟩)
    have hg1 := it_f e1 hg0
    by_cases e2 : t.1 = 2
    · exact Or.inr (Or.inr (⟨e2, (so_i (it_t e2 hg1)).symm⟩))
    have hg2 := it_f e2 hg1
    cases hg2
  refine vx_ofWH (cc := cL_grade) (maxL := 4) (ret := some .int) (hh := [(0, 6, 7, 15), (0, 6, 11, 17)]) (by decide) rfl ?_
  intro p e s m args below meth c s₁ B hml hv
  obtain ⟨rfl, hsz, ⟨hz, hn⟩, ⟨hP, hK⟩⟩ := hv
  subst hsz
  have hx := B.exec
  have hb := B.bytes
  have hr := B.returns
  have hlk := B.notSynchronized
  have hown : s.vm.findClass RL = some m.cls := findClass_of_methodNamed B.named
  have hts : ∀ w ∈ gw, w.before ([.ref (ad 150), .int x1, .int x2] : List Value).toArray s = true := fun w h => atoms_spec (ws := uL_grade) B.pre w (List.mem_cons_of_mem _ h)
  have hT : c.exceptionTable.toList = tableOf [(0, 6, 7, 15), (0, 6, 11, 17)] := vx_table (x := yL_grade) B (atoms_spec (ws := uL_grade) B.pre _ List.mem_cons_self)
  have S : CallFix p m c cL_grade 4 s ([.ref (ad 150), .int x1, .int x2] : List Value).toArray gw RL := ⟨hx, hb, hml, hown, hts⟩
  have hl := lv_entry ([.ref (ad 150), .int x1, .int x2]) (n := 4) (Nat.le_of_ble_eq_true rfl)
  rw [lg_entry_eq]
  generalize (lg_sl ([.ref (ad 150), .int x1, .int x2]) ++ List.replicate (4 - (lg_sl ([.ref (ad 150), .int x1, .int x2])).length) Slot.unset).toArray = ls at hl ⊢
  have hl : lv_has ls 4 [(0, .ref (ad 150)), (1, .int x1), (2, .int x2)] := hl
  refine lv_aload_n hx hb dL_grade_0 rfl (lv_at hl 0 rfl) ?_
  refine lv_iload_n hx hb dL_grade_1 rfl (lv_at hl 1 rfl) ?_
  refine lv_iload_n hx hb dL_grade_2 rfl (lv_at hl 2 rfl) ?_
  refine vx_calli (vx_runV (As := [.int x1, .int x2]) (rest := []) S (c4_grade l hI hl0 s.heap.size x1 x2 hf) (cwV 2 hts qL_9 rfl rfl rfl (by decide +kernel) ⟨Nat.le_of_ble_eq_true rfl, Nat.le_of_ble_eq_true rfl⟩) ⟨hc_bl, va_recv hK hP (ci := 4) (q0 := 150) rfl (cw_ate (by omega) rfl), fun U hU hW => ⟨rfl, by rw [hU], zx_at hz hW (fun a _ _ => by rw [hU]) (fun q h => h), by rw [hU]; exact hP, va_K.moved hW.alike hK⟩⟩ rfl rfl hl.1 rfl (lv_room (Nat.le_of_ble_eq_true rfl)) dL_grade_3 ⟨Nat.le_of_ble_eq_true rfl, Nat.le_of_ble_eq_true rfl⟩) (va_S.rf (A := cA ad s.heap.size) (H0 := s.heap)) (fun q _ h => h) (fun q h => h) (fun q _ h => h) (fun E ce q9 u t9 H1 locs1 ht hvm hpx hB hz1 hk1 hS hc1 hc2 hc3 => ?_) (fun r u t9 H1 locs1 ht hvm hw hB hz1 hk1 hS => ?_)
  · obtain ⟨hE, hB⟩ := hB
    have hP1 : va_P D vwCl (cwW Y ad t.2.2) H1 := by rw [← ht]; exact hB.1
    rcases hk with ⟨h0, -⟩ | ⟨h0, rfl⟩ | ⟨h0, rfl⟩
    · exact absurd h0 hpx
    · have hE1 : E = "java/lang/IndexOutOfBoundsException" := by rw [hE, h0]; rfl
      subst hE1
      refine vx_catch hown [] ⟨0, 6, 7, 15⟩ [⟨0, 6, 11, 17⟩] (hT.trans rfl) (fun z h => nomatch h) (by decide) (by decide) (hts _ gclL_15) (va_Nw.use rfl hz.2.2.1) hc1 hc2 hc3 ?_
      refine lv_astore_n (lv' := [(3, .ref q9), (0, .ref (ad 150)), (1, .int x1), (2, .int x2)]) hx hb dL_grade_7 rfl hl (by decide) rfl (fun ls hl => ?_)
      refine lv_bipush (v := (-3)) hx hb dL_grade_8 (by decide) ?_
      exact hl_iw hx hb hr hlk hK hP1 hS (Nat.le_of_ble_eq_true rfl) (Nat.le_of_ble_eq_true rfl) dL_grade_10
    · have hE1 : E = "java/lang/IllegalArgumentException" := by rw [hE, h0]; rfl
      subst hE1
      refine vx_catch hown [⟨0, 6, 7, 15⟩] ⟨0, 6, 11, 17⟩ [] (hT.trans rfl) (fun z h => by obtain rfl := List.mem_singleton.mp h; exact Or.inr ⟨by decide, "java/lang/IndexOutOfBoundsException", hts _ gclL_15, hn.1⟩) (by decide) (by decide) (hts _ gclL_17) (va_Nw.use rfl hz.2.2.2.1) hc1 hc2 hc3 ?_
      refine lv_astore_n (lv' := [(3, .ref q9), (0, .ref (ad 150)), (1, .int x1), (2, .int x2)]) hx hb dL_grade_11 rfl hl (by decide) rfl (fun ls hl => ?_)
      refine lv_bipush (v := (-2)) hx hb dL_grade_12 (by decide) ?_
      exact hl_iw hx hb hr hlk hK hP1 hS (Nat.le_of_ble_eq_true rfl) (Nat.le_of_ble_eq_true rfl) dL_grade_14
  · obtain ⟨rfl, h0⟩ := hw
    have hP1 : va_P D vwCl (cwW Y ad t.2.2) H1 := by rw [← ht]; exact hB.1
    have hkc : t0 = (t.2.1, t.2.2) := by
      rcases hk with ⟨_, q⟩ | ⟨q, _⟩ | ⟨q, _⟩
      · exact q
      · exact absurd (q.symm.trans h0) (by decide)
      · exact absurd (q.symm.trans h0) (by decide)
    subst hkc
    exact hl_iw hx hb hr hlk hK hP1 hS (Nat.le_of_ble_eq_true rfl) (Nat.le_of_ble_eq_true rfl) dL_grade_6
def f6_spring_0 (x1 x2 : Int32) (mu : Nat → Nat → Int32) : Option (Int32 × (Nat → Nat → Int32)) := Option.bind (f4_spring_0 x1 x2 mu) (fun t => if t.1 = 0 then some (t.2.1, t.2.2) else if t.1 = 1 then some (-3, t.2.2) else if t.1 = 2 then some (-2, t.2.2) else if t.1 = 3 then some (-4, t.2.2) else none)
set_option maxRecDepth 100000 in
set_option maxHeartbeats 4000000 in
theorem h6_spring (l : Launch) {D : va_G} {Y : cYt} {ad : Nat → Nat} {mu : Nat → Nat → Int32} (hI : cInj ad) (hl0 : l.stackTraces = false) (sz : Nat) (x1 : Int32) (x2 : Int32) {t0 : Int32 × (Nat → Nat → Int32)} (hf0 : f6_spring_0 x1 x2 mu = some t0) : vx_Met l yL_spring uL_spring rmL (va_Pc [.ref (ad 150), .int x1, .int x2] (fun U => U.heap.size = sz ∧ lZ ad sz U ∧ cB D Y ad mu U)) (va_Qi (fun (r9 : Int32) (_ : Unit) => r9 = t0.1) (fun _ t9 => cB D Y ad t0.2 t9) (cA ad sz)) (vx_X (fun (_ : Unit) => False) (fun _ _ _ => True) (cA ad sz)) 3 18 (cA ad sz) := by
  obtain ⟨t, hf, hf1⟩ := bd_o hf0
  have hk : t.1 = 0 ∧ t0 = (t.2.1, t.2.2) ∨ t.1 = 1 ∧ t0 = (-3, t.2.2) ∨ t.1 = 2 ∧ t0 = (-2, t.2.2) ∨ t.1 = 3 ∧ t0 = (-4, t.2.2) := by
    by_cases e0 : t.1 = 0
    · exact Or.inl ⟨e0, (so_i (it_t e0 hf1)).symm⟩
    have hg0 := it_f e0 hf1
    by_cases e1 : t.1 = 1
    · exact Or.inr (Or.inl ⟨e1, (so_i (it_t e1 hg0)).symm⟩)
    have hg1 := it_f e1 hg0
    by_cases e2 : t.1 = 2
    · exact Or.inr (Or.inr (Or.inl ⟨e2, (so_i (it_t e2 hg1)).symm⟩))
    have hg2 := it_f e2 hg1
    by_cases e3 : t.1 = 3
    · exact Or.inr (Or.inr (Or.inr (⟨e3, (so_i (it_t e3 hg2)).symm⟩)))
    have hg3 := it_f e3 hg2
    cases hg3
  refine vx_ofWH (cc := cL_spring) (maxL := 4) (ret := some .int) (hh := [(0, 6, 7, 15), (0, 6, 11, 17), (0, 6, 15, 22)]) (by decide) rfl ?_
  intro p e s m args below meth c s₁ B hml hv
  obtain ⟨rfl, hsz, ⟨hz, hn⟩, ⟨hP, hK⟩⟩ := hv
  subst hsz
  have hx := B.exec
  have hb := B.bytes
  have hr := B.returns
  have hlk := B.notSynchronized
  have hown : s.vm.findClass RL = some m.cls := findClass_of_methodNamed B.named
  have hts : ∀ w ∈ gw, w.before ([.ref (ad 150), .int x1, .int x2] : List Value).toArray s = true := fun w h => atoms_spec (ws := uL_spring) B.pre w (List.mem_cons_of_mem _ h)
  have hT : c.exceptionTable.toList = tableOf [(0, 6, 7, 15), (0, 6, 11, 17), (0, 6, 15, 22)] := vx_table (x := yL_spring) B (atoms_spec (ws := uL_spring) B.pre _ List.mem_cons_self)
  have S : CallFix p m c cL_spring 4 s ([.ref (ad 150), .int x1, .int x2] : List Value).toArray gw RL := ⟨hx, hb, hml, hown, hts⟩
  have hl := lv_entry ([.ref (ad 150), .int x1, .int x2]) (n := 4) (Nat.le_of_ble_eq_true rfl)
  rw [lg_entry_eq]
  generalize (lg_sl ([.ref (ad 150), .int x1, .int x2]) ++ List.replicate (4 - (lg_sl ([.ref (ad 150), .int x1, .int x2])).length) Slot.unset).toArray = ls at hl ⊢
  have hl : lv_has ls 4 [(0, .ref (ad 150)), (1, .int x1), (2, .int x2)] := hl
  refine lv_aload_n hx hb dL_spring_0 rfl (lv_at hl 0 rfl) ?_
  refine lv_iload_n hx hb dL_spring_1 rfl (lv_at hl 1 rfl) ?_
  refine lv_iload_n hx hb dL_spring_2 rfl (lv_at hl 2 rfl) ?_
  refine vx_calli (vx_runV (As := [.int x1, .int x2]) (rest := []) S (c4_spring l hI hl0 s.heap.size x1 x2 hf) (cwV 2 hts qL_19 rfl rfl rfl (by decide +kernel) ⟨Nat.le_of_ble_eq_true rfl, Nat.le_of_ble_eq_true rfl⟩) ⟨hc_bl, va_recv hK hP (ci := 4) (q0 := 150) rfl (cw_ate (by omega) rfl), fun U hU hW => ⟨rfl, by rw [hU], zx_at hz hW (fun a _ _ => by rw [hU]) (fun q h => h), by rw [hU]; exact hP, va_K.moved hW.alike hK⟩⟩ rfl rfl hl.1 rfl (lv_room (Nat.le_of_ble_eq_true rfl)) dL_spring_3 ⟨Nat.le_of_ble_eq_true rfl, Nat.le_of_ble_eq_true rfl⟩) (va_S.rf (A := cA ad s.heap.size) (H0 := s.heap)) (fun q _ h => h) (fun q h => h) (fun q _ h => h) (fun E ce q9 u t9 H1 locs1 ht hvm hpx hB hz1 hk1 hS hc1 hc2 hc3 => ?_) (fun r u t9 H1 locs1 ht hvm hw hB hz1 hk1 hS => ?_)
  · obtain ⟨hE, hB⟩ := hB
    have hP1 : va_P D vwCl (cwW Y ad t.2.2) H1 := by rw [← ht]; exact hB.1
    rcases hk with ⟨h0, -⟩ | ⟨h0, rfl⟩ | ⟨h0, rfl⟩ | ⟨h0, rfl⟩
    · exact absurd h0 hpx
    · have hE1 : E = "java/lang/IndexOutOfBoundsException" := by rw [hE, h0]; rfl
      subst hE1
      refine vx_catch hown [] ⟨0, 6, 7, 15⟩ [⟨0, 6, 11, 17⟩, ⟨0, 6, 15, 22⟩] (hT.trans rfl) (fun z h => nomatch h) (by decide) (by decide) (hts _ gclL_15) (va_Nw.use rfl hz.2.2.1) hc1 hc2 hc3 ?_
      refine lv_astore_n (lv' := [(3, .ref q9), (0, .ref (ad 150)), (1, .int x1), (2, .int x2)]) hx hb dL_spring_7 rfl hl (by decide) rfl (fun ls hl => ?_)
      refine lv_bipush (v := (-3)) hx hb dL_spring_8 (by decide) ?_
      exact hl_iw hx hb hr hlk hK hP1 hS (Nat.le_of_ble_eq_true rfl) (Nat.le_of_ble_eq_true rfl) dL_spring_10
    · have hE1 : E = "java/lang/IllegalArgumentException" := by rw [hE, h0]; rfl
      subst hE1
      refine vx_catch hown [⟨0, 6, 7, 15⟩] ⟨0, 6, 11, 17⟩ [⟨0, 6, 15, 22⟩] (hT.trans rfl) (fun z h => by obtain rfl := List.mem_singleton.mp h; exact Or.inr ⟨by decide, "java/lang/IndexOutOfBoundsException", hts _ gclL_15, hn.1⟩) (by decide) (by decide) (hts _ gclL_17) (va_Nw.use rfl hz.2.2.2.1) hc1 hc2 hc3 ?_
      refine lv_astore_n (lv' := [(3, .ref q9), (0, .ref (ad 150)), (1, .int x1), (2, .int x2)]) hx hb dL_spring_11 rfl hl (by decide) rfl (fun ls hl => ?_)
      refine lv_bipush (v := (-2)) hx hb dL_spring_12 (by decide) ?_
      exact hl_iw hx hb hr hlk hK hP1 hS (Nat.le_of_ble_eq_true rfl) (Nat.le_of_ble_eq_true rfl) dL_spring_14
    · have hE1 : E = "java/lang/IllegalStateException" := by rw [hE, h0]; rfl
      subst hE1
      refine vx_catch hown [⟨0, 6, 7, 15⟩, ⟨0, 6, 11, 17⟩] ⟨0, 6, 15, 22⟩ [] (hT.trans rfl) (fun z h => by
        rcases List.mem_cons.mp h with rfl | h
        · exact Or.inr ⟨by decide, "java/lang/IndexOutOfBoundsException", hts _ gclL_15, hn.2.1⟩
        · obtain rfl := List.mem_singleton.mp h
          exact Or.inr ⟨by decide, "java/lang/IllegalArgumentException", hts _ gclL_17, hn.2.2⟩) (by decide) (by decide) (hts _ gclL_22) (va_Nw.use rfl hz.2.2.2.2.1) hc1 hc2 hc3 ?_
      refine lv_astore_n (lv' := [(3, .ref q9), (0, .ref (ad 150)), (1, .int x1), (2, .int x2)]) hx hb dL_spring_15 rfl hl (by decide) rfl (fun ls hl => ?_)
      refine lv_bipush (v := (-4)) hx hb dL_spring_16 (by decide) ?_
      exact hl_iw hx hb hr hlk hK hP1 hS (Nat.le_of_ble_eq_true rfl) (Nat.le_of_ble_eq_true rfl) dL_spring_18
  · obtain ⟨rfl, h0⟩ := hw
    have hP1 : va_P D vwCl (cwW Y ad t.2.2) H1 := by rw [← ht]; exact hB.1
    have hkc : t0 = (t.2.1, t.2.2) := by
      rcases hk with ⟨_, q⟩ | ⟨q, _⟩ | ⟨q, _⟩ | ⟨q, _⟩
      · exact q
      · exact absurd (q.symm.trans h0) (by decide)
      · exact absurd (q.symm.trans h0) (by decide)
      · exact absurd (q.symm.trans h0) (by decide)
    subst hkc
    exact hl_iw hx hb hr hlk hK hP1 hS (Nat.le_of_ble_eq_true rfl) (Nat.le_of_ble_eq_true rfl) dL_spring_6
def f6_car_0 (mu : Nat → Nat → Int32) : Option (Int32 × (Nat → Nat → Int32)) := Option.bind (f4_car_0 mu) (fun t => if t.1 = 0 then some (t.2.1, t.2.2) else if t.1 = 3 then some (-2, t.2.2) else none)
set_option maxRecDepth 100000 in
set_option maxHeartbeats 4000000 in
theorem h6_car (l : Launch) {D : va_G} {Y : cYt} {ad : Nat → Nat} {mu : Nat → Nat → Int32} (hI : cInj ad) (hl0 : l.stackTraces = false) (sz : Nat)  {t0 : Int32 × (Nat → Nat → Int32)} (hf0 : f6_car_0 mu = some t0) : vx_Met l yL_car uL_car rmL (va_Pc [.ref (ad 150)] (fun U => U.heap.size = sz ∧ lZ ad sz U ∧ cB D Y ad mu U)) (va_Qi (fun (r9 : Int32) (_ : Unit) => r9 = t0.1) (fun _ t9 => cB D Y ad t0.2 t9) (cA ad sz)) (vx_X (fun (_ : Unit) => False) (fun _ _ _ => True) (cA ad sz)) 3 18 (cA ad sz) := by
  obtain ⟨t, hf, hf1⟩ := bd_o hf0
  have hk : t.1 = 0 ∧ t0 = (t.2.1, t.2.2) ∨ t.1 = 3 ∧ t0 = (-2, t.2.2) := by
    by_cases e0 : t.1 = 0
    · exact Or.inl ⟨e0, (so_i (it_t e0 hf1)).symm⟩
    have hg0 := it_f e0 hf1
    by_cases e1 : t.1 = 3
    · exact Or.inr (⟨e1, (so_i (it_t e1 hg0)).symm⟩)
    have hg1 := it_f e1 hg0
    cases hg1
  refine vx_ofWH (cc := cL_car) (maxL := 2) (ret := some .int) (hh := [(0, 4, 5, 22)]) (by decide) rfl ?_
  intro p e s m args below meth c s₁ B hml hv
  obtain ⟨rfl, hsz, ⟨hz, hn⟩, ⟨hP, hK⟩⟩ := hv
  subst hsz
  have hx := B.exec
  have hb := B.bytes
  have hr := B.returns
  have hlk := B.notSynchronized
  have hown : s.vm.findClass RL = some m.cls := findClass_of_methodNamed B.named
  have hts : ∀ w ∈ gw, w.before ([.ref (ad 150)] : List Value).toArray s = true := fun w h => atoms_spec (ws := uL_car) B.pre w (List.mem_cons_of_mem _ h)
  have hT : c.exceptionTable.toList = tableOf [(0, 4, 5, 22)] := vx_table (x := yL_car) B (atoms_spec (ws := uL_car) B.pre _ List.mem_cons_self)
  have S : CallFix p m c cL_car 2 s ([.ref (ad 150)] : List Value).toArray gw RL := ⟨hx, hb, hml, hown, hts⟩
  have hl := lv_entry ([.ref (ad 150)]) (n := 2) (Nat.le_of_ble_eq_true rfl)
  rw [lg_entry_eq]
  generalize (lg_sl ([.ref (ad 150)]) ++ List.replicate (2 - (lg_sl ([.ref (ad 150)])).length) Slot.unset).toArray = ls at hl ⊢
  have hl : lv_has ls 2 [(0, .ref (ad 150))] := hl
  refine lv_aload_n hx hb dL_car_0 rfl (lv_at hl 0 rfl) ?_
  refine vx_calli (vx_runV (As := []) (rest := []) S (c4_car l hI hl0 s.heap.size  hf) (cwV 0 hts qL_24 rfl rfl rfl (by decide +kernel) ⟨Nat.le_of_ble_eq_true rfl, Nat.le_of_ble_eq_true rfl⟩) ⟨hc_bl, va_recv hK hP (ci := 4) (q0 := 150) rfl (cw_ate (by omega) rfl), fun U hU hW => ⟨rfl, by rw [hU], zx_at hz hW (fun a _ _ => by rw [hU]) (fun q h => h), by rw [hU]; exact hP, va_K.moved hW.alike hK⟩⟩ rfl rfl hl.1 rfl (lv_room (Nat.le_of_ble_eq_true rfl)) dL_car_1 ⟨Nat.le_of_ble_eq_true rfl, Nat.le_of_ble_eq_true rfl⟩) (va_S.rf (A := cA ad s.heap.size) (H0 := s.heap)) (fun q _ h => h) (fun q h => h) (fun q _ h => h) (fun E ce q9 u t9 H1 locs1 ht hvm hpx hB hz1 hk1 hS hc1 hc2 hc3 => ?_) (fun r u t9 H1 locs1 ht hvm hw hB hz1 hk1 hS => ?_)
  · obtain ⟨hE, hB⟩ := hB
    have hP1 : va_P D vwCl (cwW Y ad t.2.2) H1 := by rw [← ht]; exact hB.1
    rcases hk with ⟨h0, -⟩ | ⟨h0, rfl⟩
    · exact absurd h0 hpx
    · have hE1 : E = "java/lang/IllegalStateException" := by rw [hE, h0]; rfl
      subst hE1
      refine vx_catch hown [] ⟨0, 4, 5, 22⟩ [] (hT.trans rfl) (fun z h => nomatch h) (by decide) (by decide) (hts _ gclL_22) (va_Nw.use rfl hz.2.2.2.2.1) hc1 hc2 hc3 ?_
      refine lv_astore_n (lv' := [(1, .ref q9), (0, .ref (ad 150))]) hx hb dL_car_5 rfl hl (by decide) rfl (fun ls hl => ?_)
      refine lv_bipush (v := (-2)) hx hb dL_car_6 (by decide) ?_
      exact hl_iw hx hb hr hlk hK hP1 hS (Nat.le_of_ble_eq_true rfl) (Nat.le_of_ble_eq_true rfl) dL_car_8
  · obtain ⟨rfl, h0⟩ := hw
    have hP1 : va_P D vwCl (cwW Y ad t.2.2) H1 := by rw [← ht]; exact hB.1
    have hkc : t0 = (t.2.1, t.2.2) := by
      rcases hk with ⟨_, q⟩ | ⟨q, _⟩
      · exact q
      · exact absurd (q.symm.trans h0) (by decide)
    subst hkc
    exact hl_iw hx hb hr hlk hK hP1 hS (Nat.le_of_ble_eq_true rfl) (Nat.le_of_ble_eq_true rfl) dL_car_4
def f6_load_0 (x1 x2 : Int32) (mu : Nat → Nat → Int32) : Option (Int32 × (Nat → Nat → Int32)) := Option.bind (f4_load_0 x1 x2 mu) (fun t => if t.1 = 0 then some (t.2.1, t.2.2) else if t.1 = 1 then some (-3, t.2.2) else if t.1 = 2 then some (-2, t.2.2) else if t.1 = 3 then some (-4, t.2.2) else none)
set_option maxRecDepth 100000 in
set_option maxHeartbeats 4000000 in
theorem h6_load (l : Launch) {D : va_G} {Y : cYt} {ad : Nat → Nat} {mu : Nat → Nat → Int32} (hI : cInj ad) (hl0 : l.stackTraces = false) (sz : Nat) (x1 : Int32) (x2 : Int32) {t0 : Int32 × (Nat → Nat → Int32)} (hf0 : f6_load_0 x1 x2 mu = some t0) : vx_Met l yL_load uL_load rmL (va_Pc [.ref (ad 150), .int x1, .int x2] (fun U => U.heap.size = sz ∧ lZ ad sz U ∧ cB D Y ad mu U)) (va_Qi (fun (r9 : Int32) (_ : Unit) => r9 = t0.1) (fun _ t9 => cB D Y ad t0.2 t9) (cA ad sz)) (vx_X (fun (_ : Unit) => False) (fun _ _ _ => True) (cA ad sz)) 3 18 (cA ad sz) := by
  obtain ⟨t, hf, hf1⟩ := bd_o hf0
  have hk : t.1 = 0 ∧ t0 = (t.2.1, t.2.2) ∨ t.1 = 1 ∧ t0 = (-3, t.2.2) ∨ t.1 = 2 ∧ t0 = (-2, t.2.2) ∨ t.1 = 3 ∧ t0 = (-4, t.2.2) := by
    by_cases e0 : t.1 = 0
    · exact Or.inl ⟨e0, (so_i (it_t e0 hf1)).symm⟩
    have hg0 := it_f e0 hf1
    by_cases e1 : t.1 = 1
    · exact Or.inr (Or.inl ⟨e1, (so_i (it_t e1 hg0)).symm⟩)
    have hg1 := it_f e1 hg0
    by_cases e2 : t.1 = 2
    · exact Or.inr (Or.inr (Or.inl ⟨e2, (so_i (it_t e2 hg1)).symm⟩))
    have hg2 := it_f e2 hg1
    by_cases e3 : t.1 = 3
    · exact Or.inr (Or.inr (Or.inr (⟨e3, (so_i (it_t e3 hg2)).symm⟩)))
    have hg3 := it_f e3 hg2
    cases hg3
  refine vx_ofWH (cc := cL_load) (maxL := 4) (ret := some .int) (hh := [(0, 6, 7, 15), (0, 6, 11, 17), (0, 6, 15, 22)]) (by decide) rfl ?_
  intro p e s m args below meth c s₁ B hml hv
  obtain ⟨rfl, hsz, ⟨hz, hn⟩, ⟨hP, hK⟩⟩ := hv
  subst hsz
  have hx := B.exec
  have hb := B.bytes
  have hr := B.returns
  have hlk := B.notSynchronized
  have hown : s.vm.findClass RL = some m.cls := findClass_of_methodNamed B.named
  have hts : ∀ w ∈ gw, w.before ([.ref (ad 150), .int x1, .int x2] : List Value).toArray s = true := fun w h => atoms_spec (ws := uL_load) B.pre w (List.mem_cons_of_mem _ h)
  have hT : c.exceptionTable.toList = tableOf [(0, 6, 7, 15), (0, 6, 11, 17), (0, 6, 15, 22)] := vx_table (x := yL_load) B (atoms_spec (ws := uL_load) B.pre _ List.mem_cons_self)
  have S : CallFix p m c cL_load 4 s ([.ref (ad 150), .int x1, .int x2] : List Value).toArray gw RL := ⟨hx, hb, hml, hown, hts⟩
  have hl := lv_entry ([.ref (ad 150), .int x1, .int x2]) (n := 4) (Nat.le_of_ble_eq_true rfl)
  rw [lg_entry_eq]
  generalize (lg_sl ([.ref (ad 150), .int x1, .int x2]) ++ List.replicate (4 - (lg_sl ([.ref (ad 150), .int x1, .int x2])).length) Slot.unset).toArray = ls at hl ⊢
  have hl : lv_has ls 4 [(0, .ref (ad 150)), (1, .int x1), (2, .int x2)] := hl
  refine lv_aload_n hx hb dL_load_0 rfl (lv_at hl 0 rfl) ?_
  refine lv_iload_n hx hb dL_load_1 rfl (lv_at hl 1 rfl) ?_
  refine lv_iload_n hx hb dL_load_2 rfl (lv_at hl 2 rfl) ?_
  refine vx_calli (vx_runV (As := [.int x1, .int x2]) (rest := []) S (c4_load l hI hl0 s.heap.size x1 x2 hf) (cwV 2 hts qL_28 rfl rfl rfl (by decide +kernel) ⟨Nat.le_of_ble_eq_true rfl, Nat.le_of_ble_eq_true rfl⟩) ⟨hc_bl, va_recv hK hP (ci := 4) (q0 := 150) rfl (cw_ate (by omega) rfl), fun U hU hW => ⟨rfl, by rw [hU], zx_at hz hW (fun a _ _ => by rw [hU]) (fun q h => h), by rw [hU]; exact hP, va_K.moved hW.alike hK⟩⟩ rfl rfl hl.1 rfl (lv_room (Nat.le_of_ble_eq_true rfl)) dL_load_3 ⟨Nat.le_of_ble_eq_true rfl, Nat.le_of_ble_eq_true rfl⟩) (va_S.rf (A := cA ad s.heap.size) (H0 := s.heap)) (fun q _ h => h) (fun q h => h) (fun q _ h => h) (fun E ce q9 u t9 H1 locs1 ht hvm hpx hB hz1 hk1 hS hc1 hc2 hc3 => ?_) (fun r u t9 H1 locs1 ht hvm hw hB hz1 hk1 hS => ?_)
  · obtain ⟨hE, hB⟩ := hB
    have hP1 : va_P D vwCl (cwW Y ad t.2.2) H1 := by rw [← ht]; exact hB.1
    rcases hk with ⟨h0, -⟩ | ⟨h0, rfl⟩ | ⟨h0, rfl⟩ | ⟨h0, rfl⟩
    · exact absurd h0 hpx
    · have hE1 : E = "java/lang/IndexOutOfBoundsException" := by rw [hE, h0]; rfl
      subst hE1
      refine vx_catch hown [] ⟨0, 6, 7, 15⟩ [⟨0, 6, 11, 17⟩, ⟨0, 6, 15, 22⟩] (hT.trans rfl) (fun z h => nomatch h) (by decide) (by decide) (hts _ gclL_15) (va_Nw.use rfl hz.2.2.1) hc1 hc2 hc3 ?_
      refine lv_astore_n (lv' := [(3, .ref q9), (0, .ref (ad 150)), (1, .int x1), (2, .int x2)]) hx hb dL_load_7 rfl hl (by decide) rfl (fun ls hl => ?_)
      refine lv_bipush (v := (-3)) hx hb dL_load_8 (by decide) ?_
      exact hl_iw hx hb hr hlk hK hP1 hS (Nat.le_of_ble_eq_true rfl) (Nat.le_of_ble_eq_true rfl) dL_load_10
    · have hE1 : E = "java/lang/IllegalArgumentException" := by rw [hE, h0]; rfl
      subst hE1
      refine vx_catch hown [⟨0, 6, 7, 15⟩] ⟨0, 6, 11, 17⟩ [⟨0, 6, 15, 22⟩] (hT.trans rfl) (fun z h => by obtain rfl := List.mem_singleton.mp h; exact Or.inr ⟨by decide, "java/lang/IndexOutOfBoundsException", hts _ gclL_15, hn.1⟩) (by decide) (by decide) (hts _ gclL_17) (va_Nw.use rfl hz.2.2.2.1) hc1 hc2 hc3 ?_
      refine lv_astore_n (lv' := [(3, .ref q9), (0, .ref (ad 150)), (1, .int x1), (2, .int x2)]) hx hb dL_load_11 rfl hl (by decide) rfl (fun ls hl => ?_)
      refine lv_bipush (v := (-2)) hx hb dL_load_12 (by decide) ?_
      exact hl_iw hx hb hr hlk hK hP1 hS (Nat.le_of_ble_eq_true rfl) (Nat.le_of_ble_eq_true rfl) dL_load_14
    · have hE1 : E = "java/lang/IllegalStateException" := by rw [hE, h0]; rfl
      subst hE1
      refine vx_catch hown [⟨0, 6, 7, 15⟩, ⟨0, 6, 11, 17⟩] ⟨0, 6, 15, 22⟩ [] (hT.trans rfl) (fun z h => by
        rcases List.mem_cons.mp h with rfl | h
        · exact Or.inr ⟨by decide, "java/lang/IndexOutOfBoundsException", hts _ gclL_15, hn.2.1⟩
        · obtain rfl := List.mem_singleton.mp h
          exact Or.inr ⟨by decide, "java/lang/IllegalArgumentException", hts _ gclL_17, hn.2.2⟩) (by decide) (by decide) (hts _ gclL_22) (va_Nw.use rfl hz.2.2.2.2.1) hc1 hc2 hc3 ?_
      refine lv_astore_n (lv' := [(3, .ref q9), (0, .ref (ad 150)), (1, .int x1), (2, .int x2)]) hx hb dL_load_15 rfl hl (by decide) rfl (fun ls hl => ?_)
      refine lv_bipush (v := (-4)) hx hb dL_load_16 (by decide) ?_
      exact hl_iw hx hb hr hlk hK hP1 hS (Nat.le_of_ble_eq_true rfl) (Nat.le_of_ble_eq_true rfl) dL_load_18
  · obtain ⟨rfl, h0⟩ := hw
    have hP1 : va_P D vwCl (cwW Y ad t.2.2) H1 := by rw [← ht]; exact hB.1
    have hkc : t0 = (t.2.1, t.2.2) := by
      rcases hk with ⟨_, q⟩ | ⟨q, _⟩ | ⟨q, _⟩ | ⟨q, _⟩
      · exact q
      · exact absurd (q.symm.trans h0) (by decide)
      · exact absurd (q.symm.trans h0) (by decide)
      · exact absurd (q.symm.trans h0) (by decide)
    subst hkc
    exact hl_iw hx hb hr hlk hK hP1 hS (Nat.le_of_ble_eq_true rfl) (Nat.le_of_ble_eq_true rfl) dL_load_6
def f6_release_0 (x1 x2 : Int32) (mu : Nat → Nat → Int32) : Option (Int32 × (Nat → Nat → Int32)) := Option.bind (f4_release_0 x1 x2 mu) (fun t => if t.1 = 0 then some (t.2.1, t.2.2) else if t.1 = 1 then some (-3, t.2.2) else if t.1 = 2 then some (-2, t.2.2) else none)
set_option maxRecDepth 100000 in
set_option maxHeartbeats 4000000 in
theorem h6_release (l : Launch) {D : va_G} {Y : cYt} {ad : Nat → Nat} {mu : Nat → Nat → Int32} (hI : cInj ad) (hl0 : l.stackTraces = false) (sz : Nat) (x1 : Int32) (x2 : Int32) {t0 : Int32 × (Nat → Nat → Int32)} (hf0 : f6_release_0 x1 x2 mu = some t0) : vx_Met l yL_release uL_release rmL (va_Pc [.ref (ad 150), .int x1, .int x2] (fun U => U.heap.size = sz ∧ lZ ad sz U ∧ cB D Y ad mu U)) (va_Qi (fun (r9 : Int32) (_ : Unit) => r9 = t0.1) (fun _ t9 => cB D Y ad t0.2 t9) (cA ad sz)) (vx_X (fun (_ : Unit) => False) (fun _ _ _ => True) (cA ad sz)) 3 18 (cA ad sz) := by
  obtain ⟨t, hf, hf1⟩ := bd_o hf0
  have hk : t.1 = 0 ∧ t0 = (t.2.1, t.2.2) ∨ t.1 = 1 ∧ t0 = (-3, t.2.2) ∨ t.1 = 2 ∧ t0 = (-2, t.2.2) := by
    by_cases e0 : t.1 = 0
    · exact Or.inl ⟨e0, (so_i (it_t e0 hf1)).symm⟩
    have hg0 := it_f e0 hf1
    by_cases e1 : t.1 = 1
    · exact Or.inr (Or.inl ⟨e1, (so_i (it_t e1 hg0)).symm⟩)
    have hg1 := it_f e1 hg0
    by_cases e2 : t.1 = 2
    · exact Or.inr (Or.inr (⟨e2, (so_i (it_t e2 hg1)).symm⟩))
    have hg2 := it_f e2 hg1
    cases hg2
  refine vx_ofWH (cc := cL_release) (maxL := 4) (ret := some .int) (hh := [(0, 6, 7, 15), (0, 6, 11, 17)]) (by decide) rfl ?_
  intro p e s m args below meth c s₁ B hml hv
  obtain ⟨rfl, hsz, ⟨hz, hn⟩, ⟨hP, hK⟩⟩ := hv
  subst hsz
  have hx := B.exec
  have hb := B.bytes
  have hr := B.returns
  have hlk := B.notSynchronized
  have hown : s.vm.findClass RL = some m.cls := findClass_of_methodNamed B.named
  have hts : ∀ w ∈ gw, w.before ([.ref (ad 150), .int x1, .int x2] : List Value).toArray s = true := fun w h => atoms_spec (ws := uL_release) B.pre w (List.mem_cons_of_mem _ h)
  have hT : c.exceptionTable.toList = tableOf [(0, 6, 7, 15), (0, 6, 11, 17)] := vx_table (x := yL_release) B (atoms_spec (ws := uL_release) B.pre _ List.mem_cons_self)
  have S : CallFix p m c cL_release 4 s ([.ref (ad 150), .int x1, .int x2] : List Value).toArray gw RL := ⟨hx, hb, hml, hown, hts⟩
  have hl := lv_entry ([.ref (ad 150), .int x1, .int x2]) (n := 4) (Nat.le_of_ble_eq_true rfl)
  rw [lg_entry_eq]
  generalize (lg_sl ([.ref (ad 150), .int x1, .int x2]) ++ List.replicate (4 - (lg_sl ([.ref (ad 150), .int x1, .int x2])).length) Slot.unset).toArray = ls at hl ⊢
  have hl : lv_has ls 4 [(0, .ref (ad 150)), (1, .int x1), (2, .int x2)] := hl
  refine lv_aload_n hx hb dL_release_0 rfl (lv_at hl 0 rfl) ?_
  refine lv_iload_n hx hb dL_release_1 rfl (lv_at hl 1 rfl) ?_
  refine lv_iload_n hx hb dL_release_2 rfl (lv_at hl 2 rfl) ?_
  refine vx_calli (vx_runV (As := [.int x1, .int x2]) (rest := []) S (c4_release l hI hl0 s.heap.size x1 x2 hf) (cwV 2 hts qL_31 rfl rfl rfl (by decide +kernel) ⟨Nat.le_of_ble_eq_true rfl, Nat.le_of_ble_eq_true rfl⟩) ⟨hc_bl, va_recv hK hP (ci := 4) (q0 := 150) rfl (cw_ate (by omega) rfl), fun U hU hW => ⟨rfl, by rw [hU], zx_at hz hW (fun a _ _ => by rw [hU]) (fun q h => h), by rw [hU]; exact hP, va_K.moved hW.alike hK⟩⟩ rfl rfl hl.1 rfl (lv_room (Nat.le_of_ble_eq_true rfl)) dL_release_3 ⟨Nat.le_of_ble_eq_true rfl, Nat.le_of_ble_eq_true rfl⟩) (va_S.rf (A := cA ad s.heap.size) (H0 := s.heap)) (fun q _ h => h) (fun q h => h) (fun q _ h => h) (fun E ce q9 u t9 H1 locs1 ht hvm hpx hB hz1 hk1 hS hc1 hc2 hc3 => ?_) (fun r u t9 H1 locs1 ht hvm hw hB hz1 hk1 hS => ?_)
  · obtain ⟨hE, hB⟩ := hB
    have hP1 : va_P D vwCl (cwW Y ad t.2.2) H1 := by rw [← ht]; exact hB.1
    rcases hk with ⟨h0, -⟩ | ⟨h0, rfl⟩ | ⟨h0, rfl⟩
    · exact absurd h0 hpx
    · have hE1 : E = "java/lang/IndexOutOfBoundsException" := by rw [hE, h0]; rfl
      subst hE1
      refine vx_catch hown [] ⟨0, 6, 7, 15⟩ [⟨0, 6, 11, 17⟩] (hT.trans rfl) (fun z h => nomatch h) (by decide) (by decide) (hts _ gclL_15) (va_Nw.use rfl hz.2.2.1) hc1 hc2 hc3 ?_
      refine lv_astore_n (lv' := [(3, .ref q9), (0, .ref (ad 150)), (1, .int x1), (2, .int x2)]) hx hb dL_release_7 rfl hl (by decide) rfl (fun ls hl => ?_)
      refine lv_bipush (v := (-3)) hx hb dL_release_8 (by decide) ?_
      exact hl_iw hx hb hr hlk hK hP1 hS (Nat.le_of_ble_eq_true rfl) (Nat.le_of_ble_eq_true rfl) dL_release_10
    · have hE1 : E = "java/lang/IllegalArgumentException" := by rw [hE, h0]; rfl
      subst hE1
      refine vx_catch hown [⟨0, 6, 7, 15⟩] ⟨0, 6, 11, 17⟩ [] (hT.trans rfl) (fun z h => by obtain rfl := List.mem_singleton.mp h; exact Or.inr ⟨by decide, "java/lang/IndexOutOfBoundsException", hts _ gclL_15, hn.1⟩) (by decide) (by decide) (hts _ gclL_17) (va_Nw.use rfl hz.2.2.2.1) hc1 hc2 hc3 ?_
      refine lv_astore_n (lv' := [(3, .ref q9), (0, .ref (ad 150)), (1, .int x1), (2, .int x2)]) hx hb dL_release_11 rfl hl (by decide) rfl (fun ls hl => ?_)
      refine lv_bipush (v := (-2)) hx hb dL_release_12 (by decide) ?_
      exact hl_iw hx hb hr hlk hK hP1 hS (Nat.le_of_ble_eq_true rfl) (Nat.le_of_ble_eq_true rfl) dL_release_14
  · obtain ⟨rfl, h0⟩ := hw
    have hP1 : va_P D vwCl (cwW Y ad t.2.2) H1 := by rw [← ht]; exact hB.1
    have hkc : t0 = (t.2.1, t.2.2) := by
      rcases hk with ⟨_, q⟩ | ⟨q, _⟩ | ⟨q, _⟩
      · exact q
      · exact absurd (q.symm.trans h0) (by decide)
      · exact absurd (q.symm.trans h0) (by decide)
    subst hkc
    exact hl_iw hx hb hr hlk hK hP1 hS (Nat.le_of_ble_eq_true rfl) (Nat.le_of_ble_eq_true rfl) dL_release_6
def f6_brake_0 (x1 x2 : Int32) (mu : Nat → Nat → Int32) : Option (Int32 × (Nat → Nat → Int32)) := Option.bind (f4_brake_0 x1 x2 mu) (fun t => if t.1 = 0 then some (t.2.1, t.2.2) else if t.1 = 1 then some (-3, t.2.2) else if t.1 = 2 then some (-2, t.2.2) else if t.1 = 3 then some (-4, t.2.2) else none)
set_option maxRecDepth 100000 in
set_option maxHeartbeats 4000000 in
theorem h6_brake (l : Launch) {D : va_G} {Y : cYt} {ad : Nat → Nat} {mu : Nat → Nat → Int32} (hI : cInj ad) (hl0 : l.stackTraces = false) (sz : Nat) (x1 : Int32) (x2 : Int32) {t0 : Int32 × (Nat → Nat → Int32)} (hf0 : f6_brake_0 x1 x2 mu = some t0) : vx_Met l yL_brake uL_brake rmL (va_Pc [.ref (ad 150), .int x1, .int x2] (fun U => U.heap.size = sz ∧ lZ ad sz U ∧ cB D Y ad mu U)) (va_Qi (fun (r9 : Int32) (_ : Unit) => r9 = t0.1) (fun _ t9 => cB D Y ad t0.2 t9) (cA ad sz)) (vx_X (fun (_ : Unit) => False) (fun _ _ _ => True) (cA ad sz)) 3 18 (cA ad sz) := by
  obtain ⟨t, hf, hf1⟩ := bd_o hf0
  have hk : t.1 = 0 ∧ t0 = (t.2.1, t.2.2) ∨ t.1 = 1 ∧ t0 = (-3, t.2.2) ∨ t.1 = 2 ∧ t0 = (-2, t.2.2) ∨ t.1 = 3 ∧ t0 = (-4, t.2.2) := by
    by_cases e0 : t.1 = 0
    · exact Or.inl ⟨e0, (so_i (it_t e0 hf1)).symm⟩
    have hg0 := it_f e0 hf1
    by_cases e1 : t.1 = 1
    · exact Or.inr (Or.inl ⟨e1, (so_i (it_t e1 hg0)).symm⟩)
    have hg1 := it_f e1 hg0
    by_cases e2 : t.1 = 2
    · exact Or.inr (Or.inr (Or.inl ⟨e2, (so_i (it_t e2 hg1)).symm⟩))
    have hg2 := it_f e2 hg1
    by_cases e3 : t.1 = 3
    · exact Or.inr (Or.inr (Or.inr (⟨e3, (so_i (it_t e3 hg2)).symm⟩)))
    have hg3 := it_f e3 hg2
    cases hg3
  refine vx_ofWH (cc := cL_brake) (maxL := 4) (ret := some .int) (hh := [(0, 6, 7, 15), (0, 6, 11, 17), (0, 6, 15, 22)]) (by decide) rfl ?_
  intro p e s m args below meth c s₁ B hml hv
  obtain ⟨rfl, hsz, ⟨hz, hn⟩, ⟨hP, hK⟩⟩ := hv
  subst hsz
  have hx := B.exec
  have hb := B.bytes
  have hr := B.returns
  have hlk := B.notSynchronized
  have hown : s.vm.findClass RL = some m.cls := findClass_of_methodNamed B.named
  have hts : ∀ w ∈ gw, w.before ([.ref (ad 150), .int x1, .int x2] : List Value).toArray s = true := fun w h => atoms_spec (ws := uL_brake) B.pre w (List.mem_cons_of_mem _ h)
  have hT : c.exceptionTable.toList = tableOf [(0, 6, 7, 15), (0, 6, 11, 17), (0, 6, 15, 22)] := vx_table (x := yL_brake) B (atoms_spec (ws := uL_brake) B.pre _ List.mem_cons_self)
  have S : CallFix p m c cL_brake 4 s ([.ref (ad 150), .int x1, .int x2] : List Value).toArray gw RL := ⟨hx, hb, hml, hown, hts⟩
  have hl := lv_entry ([.ref (ad 150), .int x1, .int x2]) (n := 4) (Nat.le_of_ble_eq_true rfl)
  rw [lg_entry_eq]
  generalize (lg_sl ([.ref (ad 150), .int x1, .int x2]) ++ List.replicate (4 - (lg_sl ([.ref (ad 150), .int x1, .int x2])).length) Slot.unset).toArray = ls at hl ⊢
  have hl : lv_has ls 4 [(0, .ref (ad 150)), (1, .int x1), (2, .int x2)] := hl
  refine lv_aload_n hx hb dL_brake_0 rfl (lv_at hl 0 rfl) ?_
  refine lv_iload_n hx hb dL_brake_1 rfl (lv_at hl 1 rfl) ?_
  refine lv_iload_n hx hb dL_brake_2 rfl (lv_at hl 2 rfl) ?_
  refine vx_calli (vx_runV (As := [.int x1, .int x2]) (rest := []) S (c4_brake l hI hl0 s.heap.size x1 x2 hf) (cwV 2 hts qL_34 rfl rfl rfl (by decide +kernel) ⟨Nat.le_of_ble_eq_true rfl, Nat.le_of_ble_eq_true rfl⟩) ⟨hc_bl, va_recv hK hP (ci := 4) (q0 := 150) rfl (cw_ate (by omega) rfl), fun U hU hW => ⟨rfl, by rw [hU], zx_at hz hW (fun a _ _ => by rw [hU]) (fun q h => h), by rw [hU]; exact hP, va_K.moved hW.alike hK⟩⟩ rfl rfl hl.1 rfl (lv_room (Nat.le_of_ble_eq_true rfl)) dL_brake_3 ⟨Nat.le_of_ble_eq_true rfl, Nat.le_of_ble_eq_true rfl⟩) (va_S.rf (A := cA ad s.heap.size) (H0 := s.heap)) (fun q _ h => h) (fun q h => h) (fun q _ h => h) (fun E ce q9 u t9 H1 locs1 ht hvm hpx hB hz1 hk1 hS hc1 hc2 hc3 => ?_) (fun r u t9 H1 locs1 ht hvm hw hB hz1 hk1 hS => ?_)
  · obtain ⟨hE, hB⟩ := hB
    have hP1 : va_P D vwCl (cwW Y ad t.2.2) H1 := by rw [← ht]; exact hB.1
    rcases hk with ⟨h0, -⟩ | ⟨h0, rfl⟩ | ⟨h0, rfl⟩ | ⟨h0, rfl⟩
    · exact absurd h0 hpx
    · have hE1 : E = "java/lang/IndexOutOfBoundsException" := by rw [hE, h0]; rfl
      subst hE1
      refine vx_catch hown [] ⟨0, 6, 7, 15⟩ [⟨0, 6, 11, 17⟩, ⟨0, 6, 15, 22⟩] (hT.trans rfl) (fun z h => nomatch h) (by decide) (by decide) (hts _ gclL_15) (va_Nw.use rfl hz.2.2.1) hc1 hc2 hc3 ?_
      refine lv_astore_n (lv' := [(3, .ref q9), (0, .ref (ad 150)), (1, .int x1), (2, .int x2)]) hx hb dL_brake_7 rfl hl (by decide) rfl (fun ls hl => ?_)
      refine lv_bipush (v := (-3)) hx hb dL_brake_8 (by decide) ?_
      exact hl_iw hx hb hr hlk hK hP1 hS (Nat.le_of_ble_eq_true rfl) (Nat.le_of_ble_eq_true rfl) dL_brake_10
    · have hE1 : E = "java/lang/IllegalArgumentException" := by rw [hE, h0]; rfl
      subst hE1
      refine vx_catch hown [⟨0, 6, 7, 15⟩] ⟨0, 6, 11, 17⟩ [⟨0, 6, 15, 22⟩] (hT.trans rfl) (fun z h => by obtain rfl := List.mem_singleton.mp h; exact Or.inr ⟨by decide, "java/lang/IndexOutOfBoundsException", hts _ gclL_15, hn.1⟩) (by decide) (by decide) (hts _ gclL_17) (va_Nw.use rfl hz.2.2.2.1) hc1 hc2 hc3 ?_
      refine lv_astore_n (lv' := [(3, .ref q9), (0, .ref (ad 150)), (1, .int x1), (2, .int x2)]) hx hb dL_brake_11 rfl hl (by decide) rfl (fun ls hl => ?_)
      refine lv_bipush (v := (-2)) hx hb dL_brake_12 (by decide) ?_
      exact hl_iw hx hb hr hlk hK hP1 hS (Nat.le_of_ble_eq_true rfl) (Nat.le_of_ble_eq_true rfl) dL_brake_14
    · have hE1 : E = "java/lang/IllegalStateException" := by rw [hE, h0]; rfl
      subst hE1
      refine vx_catch hown [⟨0, 6, 7, 15⟩, ⟨0, 6, 11, 17⟩] ⟨0, 6, 15, 22⟩ [] (hT.trans rfl) (fun z h => by
        rcases List.mem_cons.mp h with rfl | h
        · exact Or.inr ⟨by decide, "java/lang/IndexOutOfBoundsException", hts _ gclL_15, hn.2.1⟩
        · obtain rfl := List.mem_singleton.mp h
          exact Or.inr ⟨by decide, "java/lang/IllegalArgumentException", hts _ gclL_17, hn.2.2⟩) (by decide) (by decide) (hts _ gclL_22) (va_Nw.use rfl hz.2.2.2.2.1) hc1 hc2 hc3 ?_
      refine lv_astore_n (lv' := [(3, .ref q9), (0, .ref (ad 150)), (1, .int x1), (2, .int x2)]) hx hb dL_brake_15 rfl hl (by decide) rfl (fun ls hl => ?_)
      refine lv_bipush (v := (-4)) hx hb dL_brake_16 (by decide) ?_
      exact hl_iw hx hb hr hlk hK hP1 hS (Nat.le_of_ble_eq_true rfl) (Nat.le_of_ble_eq_true rfl) dL_brake_18
  · obtain ⟨rfl, h0⟩ := hw
    have hP1 : va_P D vwCl (cwW Y ad t.2.2) H1 := by rw [← ht]; exact hB.1
    have hkc : t0 = (t.2.1, t.2.2) := by
      rcases hk with ⟨_, q⟩ | ⟨q, _⟩ | ⟨q, _⟩ | ⟨q, _⟩
      · exact q
      · exact absurd (q.symm.trans h0) (by decide)
      · exact absurd (q.symm.trans h0) (by decide)
      · exact absurd (q.symm.trans h0) (by decide)
    subst hkc
    exact hl_iw hx hb hr hlk hK hP1 hS (Nat.le_of_ble_eq_true rfl) (Nat.le_of_ble_eq_true rfl) dL_brake_6
def f6_pull_0 (x1 : Int32) (mu : Nat → Nat → Int32) : Option (Int32 × (Nat → Nat → Int32)) := Option.bind (f4_pull_0 x1 mu) (fun t => if t.1 = 0 then some (t.2.1, t.2.2) else if t.1 = 1 then some (-3, t.2.2) else none)
set_option maxRecDepth 100000 in
set_option maxHeartbeats 4000000 in
theorem h6_pull (l : Launch) {D : va_G} {Y : cYt} {ad : Nat → Nat} {mu : Nat → Nat → Int32} (hI : cInj ad) (hl0 : l.stackTraces = false) (sz : Nat) (x1 : Int32) {t0 : Int32 × (Nat → Nat → Int32)} (hf0 : f6_pull_0 x1 mu = some t0) : vx_Met l yL_pull uL_pull rmL (va_Pc [.ref (ad 150), .int x1] (fun U => U.heap.size = sz ∧ lZ ad sz U ∧ cB D Y ad mu U)) (va_Qi (fun (r9 : Int32) (_ : Unit) => r9 = t0.1) (fun _ t9 => cB D Y ad t0.2 t9) (cA ad sz)) (vx_X (fun (_ : Unit) => False) (fun _ _ _ => True) (cA ad sz)) 3 18 (cA ad sz) := by
  obtain ⟨t, hf, hf1⟩ := bd_o hf0
  have hk : t.1 = 0 ∧ t0 = (t.2.1, t.2.2) ∨ t.1 = 1 ∧ t0 = (-3, t.2.2) := by
    by_cases e0 : t.1 = 0
    · exact Or.inl ⟨e0, (so_i (it_t e0 hf1)).symm⟩
    have hg0 := it_f e0 hf1
    by_cases e1 : t.1 = 1
    · exact Or.inr (⟨e1, (so_i (it_t e1 hg0)).symm⟩)
    have hg1 := it_f e1 hg0
    cases hg1
  refine vx_ofWH (cc := cL_pull) (maxL := 3) (ret := some .int) (hh := [(0, 5, 6, 15)]) (by decide) rfl ?_
  intro p e s m args below meth c s₁ B hml hv
  obtain ⟨rfl, hsz, ⟨hz, hn⟩, ⟨hP, hK⟩⟩ := hv
  subst hsz
  have hx := B.exec
  have hb := B.bytes
  have hr := B.returns
  have hlk := B.notSynchronized
  have hown : s.vm.findClass RL = some m.cls := findClass_of_methodNamed B.named
  have hts : ∀ w ∈ gw, w.before ([.ref (ad 150), .int x1] : List Value).toArray s = true := fun w h => atoms_spec (ws := uL_pull) B.pre w (List.mem_cons_of_mem _ h)
  have hT : c.exceptionTable.toList = tableOf [(0, 5, 6, 15)] := vx_table (x := yL_pull) B (atoms_spec (ws := uL_pull) B.pre _ List.mem_cons_self)
  have S : CallFix p m c cL_pull 3 s ([.ref (ad 150), .int x1] : List Value).toArray gw RL := ⟨hx, hb, hml, hown, hts⟩
  have hl := lv_entry ([.ref (ad 150), .int x1]) (n := 3) (Nat.le_of_ble_eq_true rfl)
  rw [lg_entry_eq]
  generalize (lg_sl ([.ref (ad 150), .int x1]) ++ List.replicate (3 - (lg_sl ([.ref (ad 150), .int x1])).length) Slot.unset).toArray = ls at hl ⊢
  have hl : lv_has ls 3 [(0, .ref (ad 150)), (1, .int x1)] := hl
  refine lv_aload_n hx hb dL_pull_0 rfl (lv_at hl 0 rfl) ?_
  refine lv_iload_n hx hb dL_pull_1 rfl (lv_at hl 1 rfl) ?_
  refine vx_calli (vx_runV (As := [.int x1]) (rest := []) S (c4_pull l hI hl0 s.heap.size x1 hf) (cwV 1 hts qL_37 rfl rfl rfl (by decide +kernel) ⟨Nat.le_of_ble_eq_true rfl, Nat.le_of_ble_eq_true rfl⟩) ⟨hc_bl, va_recv hK hP (ci := 4) (q0 := 150) rfl (cw_ate (by omega) rfl), fun U hU hW => ⟨rfl, by rw [hU], zx_at hz hW (fun a _ _ => by rw [hU]) (fun q h => h), by rw [hU]; exact hP, va_K.moved hW.alike hK⟩⟩ rfl rfl hl.1 rfl (lv_room (Nat.le_of_ble_eq_true rfl)) dL_pull_2 ⟨Nat.le_of_ble_eq_true rfl, Nat.le_of_ble_eq_true rfl⟩) (va_S.rf (A := cA ad s.heap.size) (H0 := s.heap)) (fun q _ h => h) (fun q h => h) (fun q _ h => h) (fun E ce q9 u t9 H1 locs1 ht hvm hpx hB hz1 hk1 hS hc1 hc2 hc3 => ?_) (fun r u t9 H1 locs1 ht hvm hw hB hz1 hk1 hS => ?_)
  · obtain ⟨hE, hB⟩ := hB
    have hP1 : va_P D vwCl (cwW Y ad t.2.2) H1 := by rw [← ht]; exact hB.1
    rcases hk with ⟨h0, -⟩ | ⟨h0, rfl⟩
    · exact absurd h0 hpx
    · have hE1 : E = "java/lang/IndexOutOfBoundsException" := by rw [hE, h0]; rfl
      subst hE1
      refine vx_catch hown [] ⟨0, 5, 6, 15⟩ [] (hT.trans rfl) (fun z h => nomatch h) (by decide) (by decide) (hts _ gclL_15) (va_Nw.use rfl hz.2.2.1) hc1 hc2 hc3 ?_
      refine lv_astore_n (lv' := [(2, .ref q9), (0, .ref (ad 150)), (1, .int x1)]) hx hb dL_pull_6 rfl hl (by decide) rfl (fun ls hl => ?_)
      refine lv_bipush (v := (-3)) hx hb dL_pull_7 (by decide) ?_
      exact hl_iw hx hb hr hlk hK hP1 hS (Nat.le_of_ble_eq_true rfl) (Nat.le_of_ble_eq_true rfl) dL_pull_9
  · obtain ⟨rfl, h0⟩ := hw
    have hP1 : va_P D vwCl (cwW Y ad t.2.2) H1 := by rw [← ht]; exact hB.1
    have hkc : t0 = (t.2.1, t.2.2) := by
      rcases hk with ⟨_, q⟩ | ⟨q, _⟩
      · exact q
      · exact absurd (q.symm.trans h0) (by decide)
    subst hkc
    exact hl_iw hx hb hr hlk hK hP1 hS (Nat.le_of_ble_eq_true rfl) (Nat.le_of_ble_eq_true rfl) dL_pull_5
def f6_set_0 (x1 x2 : Int32) (mu : Nat → Nat → Int32) : Option (Int32 × (Nat → Nat → Int32)) := Option.bind (f4_set_0 x1 x2 mu) (fun t => if t.1 = 0 then some (t.2.1, t.2.2) else if t.1 = 1 then some (-3, t.2.2) else if t.1 = 2 then some (-2, t.2.2) else none)
set_option maxRecDepth 100000 in
set_option maxHeartbeats 4000000 in
theorem h6_set (l : Launch) {D : va_G} {Y : cYt} {ad : Nat → Nat} {mu : Nat → Nat → Int32} (hI : cInj ad) (hl0 : l.stackTraces = false) (sz : Nat) (x1 : Int32) (x2 : Int32) {t0 : Int32 × (Nat → Nat → Int32)} (hf0 : f6_set_0 x1 x2 mu = some t0) : vx_Met l yL_set uL_set rmL (va_Pc [.ref (ad 150), .int x1, .int x2] (fun U => U.heap.size = sz ∧ lZ ad sz U ∧ cB D Y ad mu U)) (va_Qi (fun (r9 : Int32) (_ : Unit) => r9 = t0.1) (fun _ t9 => cB D Y ad t0.2 t9) (cA ad sz)) (vx_X (fun (_ : Unit) => False) (fun _ _ _ => True) (cA ad sz)) 3 18 (cA ad sz) := by
  obtain ⟨t, hf, hf1⟩ := bd_o hf0
  have hk : t.1 = 0 ∧ t0 = (t.2.1, t.2.2) ∨ t.1 = 1 ∧ t0 = (-3, t.2.2) ∨ t.1 = 2 ∧ t0 = (-2, t.2.2) := by
    by_cases e0 : t.1 = 0
    · exact Or.inl ⟨e0, (so_i (it_t e0 hf1)).symm⟩
    have hg0 := it_f e0 hf1
    by_cases e1 : t.1 = 1
    · exact Or.inr (Or.inl ⟨e1, (so_i (it_t e1 hg0)).symm⟩)
    have hg1 := it_f e1 hg0
    by_cases e2 : t.1 = 2
    · exact Or.inr (Or.inr (⟨e2, (so_i (it_t e2 hg1)).symm⟩))
    have hg2 := it_f e2 hg1
    cases hg2
  refine vx_ofWH (cc := cL_set) (maxL := 4) (ret := some .int) (hh := [(0, 6, 7, 15), (0, 6, 11, 17)]) (by decide) rfl ?_
  intro p e s m args below meth c s₁ B hml hv
  obtain ⟨rfl, hsz, ⟨hz, hn⟩, ⟨hP, hK⟩⟩ := hv
  subst hsz
  have hx := B.exec
  have hb := B.bytes
  have hr := B.returns
  have hlk := B.notSynchronized
  have hown : s.vm.findClass RL = some m.cls := findClass_of_methodNamed B.named
  have hts : ∀ w ∈ gw, w.before ([.ref (ad 150), .int x1, .int x2] : List Value).toArray s = true := fun w h => atoms_spec (ws := uL_set) B.pre w (List.mem_cons_of_mem _ h)
  have hT : c.exceptionTable.toList = tableOf [(0, 6, 7, 15), (0, 6, 11, 17)] := vx_table (x := yL_set) B (atoms_spec (ws := uL_set) B.pre _ List.mem_cons_self)
  have S : CallFix p m c cL_set 4 s ([.ref (ad 150), .int x1, .int x2] : List Value).toArray gw RL := ⟨hx, hb, hml, hown, hts⟩
  have hl := lv_entry ([.ref (ad 150), .int x1, .int x2]) (n := 4) (Nat.le_of_ble_eq_true rfl)
  rw [lg_entry_eq]
  generalize (lg_sl ([.ref (ad 150), .int x1, .int x2]) ++ List.replicate (4 - (lg_sl ([.ref (ad 150), .int x1, .int x2])).length) Slot.unset).toArray = ls at hl ⊢
  have hl : lv_has ls 4 [(0, .ref (ad 150)), (1, .int x1), (2, .int x2)] := hl
  refine lv_aload_n hx hb dL_set_0 rfl (lv_at hl 0 rfl) ?_
  refine lv_iload_n hx hb dL_set_1 rfl (lv_at hl 1 rfl) ?_
  refine lv_iload_n hx hb dL_set_2 rfl (lv_at hl 2 rfl) ?_
  refine vx_calli (vx_runV (As := [.int x1, .int x2]) (rest := []) S (c4_set l hI hl0 s.heap.size x1 x2 hf) (cwV 2 hts qL_41 rfl rfl rfl (by decide +kernel) ⟨Nat.le_of_ble_eq_true rfl, Nat.le_of_ble_eq_true rfl⟩) ⟨hc_bl, va_recv hK hP (ci := 4) (q0 := 150) rfl (cw_ate (by omega) rfl), fun U hU hW => ⟨rfl, by rw [hU], zx_at hz hW (fun a _ _ => by rw [hU]) (fun q h => h), by rw [hU]; exact hP, va_K.moved hW.alike hK⟩⟩ rfl rfl hl.1 rfl (lv_room (Nat.le_of_ble_eq_true rfl)) dL_set_3 ⟨Nat.le_of_ble_eq_true rfl, Nat.le_of_ble_eq_true rfl⟩) (va_S.rf (A := cA ad s.heap.size) (H0 := s.heap)) (fun q _ h => h) (fun q h => h) (fun q _ h => h) (fun E ce q9 u t9 H1 locs1 ht hvm hpx hB hz1 hk1 hS hc1 hc2 hc3 => ?_) (fun r u t9 H1 locs1 ht hvm hw hB hz1 hk1 hS => ?_)
  · obtain ⟨hE, hB⟩ := hB
    have hP1 : va_P D vwCl (cwW Y ad t.2.2) H1 := by rw [← ht]; exact hB.1
    rcases hk with ⟨h0, -⟩ | ⟨h0, rfl⟩ | ⟨h0, rfl⟩
    · exact absurd h0 hpx
    · have hE1 : E = "java/lang/IndexOutOfBoundsException" := by rw [hE, h0]; rfl
      subst hE1
      refine vx_catch hown [] ⟨0, 6, 7, 15⟩ [⟨0, 6, 11, 17⟩] (hT.trans rfl) (fun z h => nomatch h) (by decide) (by decide) (hts _ gclL_15) (va_Nw.use rfl hz.2.2.1) hc1 hc2 hc3 ?_
      refine lv_astore_n (lv' := [(3, .ref q9), (0, .ref (ad 150)), (1, .int x1), (2, .int x2)]) hx hb dL_set_7 rfl hl (by decide) rfl (fun ls hl => ?_)
      refine lv_bipush (v := (-3)) hx hb dL_set_8 (by decide) ?_
      exact hl_iw hx hb hr hlk hK hP1 hS (Nat.le_of_ble_eq_true rfl) (Nat.le_of_ble_eq_true rfl) dL_set_10
    · have hE1 : E = "java/lang/IllegalArgumentException" := by rw [hE, h0]; rfl
      subst hE1
      refine vx_catch hown [⟨0, 6, 7, 15⟩] ⟨0, 6, 11, 17⟩ [] (hT.trans rfl) (fun z h => by obtain rfl := List.mem_singleton.mp h; exact Or.inr ⟨by decide, "java/lang/IndexOutOfBoundsException", hts _ gclL_15, hn.1⟩) (by decide) (by decide) (hts _ gclL_17) (va_Nw.use rfl hz.2.2.2.1) hc1 hc2 hc3 ?_
      refine lv_astore_n (lv' := [(3, .ref q9), (0, .ref (ad 150)), (1, .int x1), (2, .int x2)]) hx hb dL_set_11 rfl hl (by decide) rfl (fun ls hl => ?_)
      refine lv_bipush (v := (-2)) hx hb dL_set_12 (by decide) ?_
      exact hl_iw hx hb hr hlk hK hP1 hS (Nat.le_of_ble_eq_true rfl) (Nat.le_of_ble_eq_true rfl) dL_set_14
  · obtain ⟨rfl, h0⟩ := hw
    have hP1 : va_P D vwCl (cwW Y ad t.2.2) H1 := by rw [← ht]; exact hB.1
    have hkc : t0 = (t.2.1, t.2.2) := by
      rcases hk with ⟨_, q⟩ | ⟨q, _⟩ | ⟨q, _⟩
      · exact q
      · exact absurd (q.symm.trans h0) (by decide)
      · exact absurd (q.symm.trans h0) (by decide)
    subst hkc
    exact hl_iw hx hb hr hlk hK hP1 hS (Nat.le_of_ble_eq_true rfl) (Nat.le_of_ble_eq_true rfl) dL_set_6
def f6_run_0 (x1 : Int32) (mu : Nat → Nat → Int32) : Option (Int32 × (Nat → Nat → Int32)) := Option.bind (f4_run_0 x1 mu) (fun t => if t.1 = 0 then some (t.2.1, t.2.2) else if t.1 = 2 then some (-2, t.2.2) else none)
set_option maxRecDepth 100000 in
set_option maxHeartbeats 4000000 in
theorem h6_run (l : Launch) {D : va_G} {Y : cYt} {ad : Nat → Nat} {mu : Nat → Nat → Int32} (hI : cInj ad) (hl0 : l.stackTraces = false) (sz : Nat) (x1 : Int32) {t0 : Int32 × (Nat → Nat → Int32)} (hf0 : f6_run_0 x1 mu = some t0) : vx_Met l yL_run uL_run rmL (va_Pc [.ref (ad 150), .int x1] (fun U => U.heap.size = sz ∧ lZ ad sz U ∧ cB D Y ad mu U)) (va_Qi (fun (r9 : Int32) (_ : Unit) => r9 = t0.1) (fun _ t9 => cB D Y ad t0.2 t9) (cA ad sz)) (vx_X (fun (_ : Unit) => False) (fun _ _ _ => True) (cA ad sz)) 3 18 (cA ad sz) := by
  obtain ⟨t, hf, hf1⟩ := bd_o hf0
  have hk : t.1 = 0 ∧ t0 = (t.2.1, t.2.2) ∨ t.1 = 2 ∧ t0 = (-2, t.2.2) := by
    by_cases e0 : t.1 = 0
    · exact Or.inl ⟨e0, (so_i (it_t e0 hf1)).symm⟩
    have hg0 := it_f e0 hf1
    by_cases e1 : t.1 = 2
    · exact Or.inr (⟨e1, (so_i (it_t e1 hg0)).symm⟩)
    have hg1 := it_f e1 hg0
    cases hg1
  refine vx_ofWH (cc := cL_run) (maxL := 3) (ret := some .int) (hh := [(0, 5, 6, 17)]) (by decide) rfl ?_
  intro p e s m args below meth c s₁ B hml hv
  obtain ⟨rfl, hsz, ⟨hz, hn⟩, ⟨hP, hK⟩⟩ := hv
  subst hsz
  have hx := B.exec
  have hb := B.bytes
  have hr := B.returns
  have hlk := B.notSynchronized
  have hown : s.vm.findClass RL = some m.cls := findClass_of_methodNamed B.named
  have hts : ∀ w ∈ gw, w.before ([.ref (ad 150), .int x1] : List Value).toArray s = true := fun w h => atoms_spec (ws := uL_run) B.pre w (List.mem_cons_of_mem _ h)
  have hT : c.exceptionTable.toList = tableOf [(0, 5, 6, 17)] := vx_table (x := yL_run) B (atoms_spec (ws := uL_run) B.pre _ List.mem_cons_self)
  have S : CallFix p m c cL_run 3 s ([.ref (ad 150), .int x1] : List Value).toArray gw RL := ⟨hx, hb, hml, hown, hts⟩
  have hl := lv_entry ([.ref (ad 150), .int x1]) (n := 3) (Nat.le_of_ble_eq_true rfl)
  rw [lg_entry_eq]
  generalize (lg_sl ([.ref (ad 150), .int x1]) ++ List.replicate (3 - (lg_sl ([.ref (ad 150), .int x1])).length) Slot.unset).toArray = ls at hl ⊢
  have hl : lv_has ls 3 [(0, .ref (ad 150)), (1, .int x1)] := hl
  refine lv_aload_n hx hb dL_run_0 rfl (lv_at hl 0 rfl) ?_
  refine lv_iload_n hx hb dL_run_1 rfl (lv_at hl 1 rfl) ?_
  refine vx_calli (vx_runV (As := [.int x1]) (rest := []) S (c4_run l hI hl0 s.heap.size x1 hf) (cwV 1 hts qL_44 rfl rfl rfl (by decide +kernel) ⟨Nat.le_of_ble_eq_true rfl, Nat.le_of_ble_eq_true rfl⟩) ⟨hc_bl, va_recv hK hP (ci := 4) (q0 := 150) rfl (cw_ate (by omega) rfl), fun U hU hW => ⟨rfl, by rw [hU], zx_at hz hW (fun a _ _ => by rw [hU]) (fun q h => h), by rw [hU]; exact hP, va_K.moved hW.alike hK⟩⟩ rfl rfl hl.1 rfl (lv_room (Nat.le_of_ble_eq_true rfl)) dL_run_2 ⟨Nat.le_of_ble_eq_true rfl, Nat.le_of_ble_eq_true rfl⟩) (va_S.rf (A := cA ad s.heap.size) (H0 := s.heap)) (fun q _ h => h) (fun q h => h) (fun q _ h => h) (fun E ce q9 u t9 H1 locs1 ht hvm hpx hB hz1 hk1 hS hc1 hc2 hc3 => ?_) (fun r u t9 H1 locs1 ht hvm hw hB hz1 hk1 hS => ?_)
  · obtain ⟨hE, hB⟩ := hB
    have hP1 : va_P D vwCl (cwW Y ad t.2.2) H1 := by rw [← ht]; exact hB.1
    rcases hk with ⟨h0, -⟩ | ⟨h0, rfl⟩
    · exact absurd h0 hpx
    · have hE1 : E = "java/lang/IllegalArgumentException" := by rw [hE, h0]; rfl
      subst hE1
      refine vx_catch hown [] ⟨0, 5, 6, 17⟩ [] (hT.trans rfl) (fun z h => nomatch h) (by decide) (by decide) (hts _ gclL_17) (va_Nw.use rfl hz.2.2.2.1) hc1 hc2 hc3 ?_
      refine lv_astore_n (lv' := [(2, .ref q9), (0, .ref (ad 150)), (1, .int x1)]) hx hb dL_run_6 rfl hl (by decide) rfl (fun ls hl => ?_)
      refine lv_bipush (v := (-2)) hx hb dL_run_7 (by decide) ?_
      exact hl_iw hx hb hr hlk hK hP1 hS (Nat.le_of_ble_eq_true rfl) (Nat.le_of_ble_eq_true rfl) dL_run_9
  · obtain ⟨rfl, h0⟩ := hw
    have hP1 : va_P D vwCl (cwW Y ad t.2.2) H1 := by rw [← ht]; exact hB.1
    have hkc : t0 = (t.2.1, t.2.2) := by
      rcases hk with ⟨_, q⟩ | ⟨q, _⟩
      · exact q
      · exact absurd (q.symm.trans h0) (by decide)
    subst hkc
    exact hl_iw hx hb hr hlk hK hP1 hS (Nat.le_of_ble_eq_true rfl) (Nat.le_of_ble_eq_true rfl) dL_run_5
def f6_section_0 (mu : Nat → Nat → Int32) (x1 x2 : Int32) : Option Int32 := Option.bind (f4_section_0 mu x1 x2) (fun t => if t.1 = 0 then some t.2 else if t.1 = 1 then some (-3) else if t.1 = 2 then some (-2) else none)
set_option maxRecDepth 100000 in
set_option maxHeartbeats 4000000 in
theorem h6_section (l : Launch) {D : va_G} {Y : cYt} {ad : Nat → Nat} {mu : Nat → Nat → Int32} (hI : cInj ad) (hl0 : l.stackTraces = false) (sz : Nat) (x1 : Int32) (x2 : Int32) {t0 : Int32} (hf0 : f6_section_0 mu x1 x2 = some t0) : vx_Met l yL_section uL_section rmL (va_Pc [.ref (ad 150), .int x1, .int x2] (fun U => U.heap.size = sz ∧ lZ ad sz U ∧ cB D Y ad mu U)) (va_Qi (fun (r9 : Int32) (_ : Unit) => r9 = t0) (fun _ t9 => cB D Y ad mu t9) (cA ad sz)) (vx_X (fun (_ : Unit) => False) (fun _ _ _ => True) (cA ad sz)) 3 18 (cA ad sz) := by
  obtain ⟨t, hf, hf1⟩ := bd_o hf0
  have hk : t.1 = 0 ∧ t0 = t.2 ∨ t.1 = 1 ∧ t0 = (-3) ∨ t.1 = 2 ∧ t0 = (-2) := by
    by_cases e0 : t.1 = 0
    · exact Or.inl ⟨e0, (so_i (it_t e0 hf1)).symm⟩
    have hg0 := it_f e0 hf1
    by_cases e1 : t.1 = 1
    · exact Or.inr (Or.inl ⟨e1, (so_i (it_t e1 hg0)).symm⟩)
    have hg1 := it_f e1 hg0
    by_cases e2 : t.1 = 2
    · exact Or.inr (Or.inr (⟨e2, (so_i (it_t e2 hg1)).symm⟩))
    have hg2 := it_f e2 hg1
    cases hg2
  refine vx_ofWH (cc := cL_section) (maxL := 4) (ret := some .int) (hh := [(0, 6, 7, 15), (0, 6, 11, 17)]) (by decide) rfl ?_
  intro p e s m args below meth c s₁ B hml hv
  obtain ⟨rfl, hsz, ⟨hz, hn⟩, ⟨hP, hK⟩⟩ := hv
  subst hsz
  have hx := B.exec
  have hb := B.bytes
  have hr := B.returns
  have hlk := B.notSynchronized
  have hown : s.vm.findClass RL = some m.cls := findClass_of_methodNamed B.named
  have hts : ∀ w ∈ gw, w.before ([.ref (ad 150), .int x1, .int x2] : List Value).toArray s = true := fun w h => atoms_spec (ws := uL_section) B.pre w (List.mem_cons_of_mem _ h)
  have hT : c.exceptionTable.toList = tableOf [(0, 6, 7, 15), (0, 6, 11, 17)] := vx_table (x := yL_section) B (atoms_spec (ws := uL_section) B.pre _ List.mem_cons_self)
  have S : CallFix p m c cL_section 4 s ([.ref (ad 150), .int x1, .int x2] : List Value).toArray gw RL := ⟨hx, hb, hml, hown, hts⟩
  have hl := lv_entry ([.ref (ad 150), .int x1, .int x2]) (n := 4) (Nat.le_of_ble_eq_true rfl)
  rw [lg_entry_eq]
  generalize (lg_sl ([.ref (ad 150), .int x1, .int x2]) ++ List.replicate (4 - (lg_sl ([.ref (ad 150), .int x1, .int x2])).length) Slot.unset).toArray = ls at hl ⊢
  have hl : lv_has ls 4 [(0, .ref (ad 150)), (1, .int x1), (2, .int x2)] := hl
  refine lv_aload_n hx hb dL_section_0 rfl (lv_at hl 0 rfl) ?_
  refine lv_iload_n hx hb dL_section_1 rfl (lv_at hl 1 rfl) ?_
  refine lv_iload_n hx hb dL_section_2 rfl (lv_at hl 2 rfl) ?_
  refine vx_calli (vx_runV (As := [.int x1, .int x2]) (rest := []) S (c4_section l hI hl0 s.heap.size x1 x2 hf) (cwV 2 hts qL_47 rfl rfl rfl (by decide +kernel) ⟨Nat.le_of_ble_eq_true rfl, Nat.le_of_ble_eq_true rfl⟩) ⟨hc_bl, va_recv hK hP (ci := 4) (q0 := 150) rfl (cw_ate (by omega) rfl), fun U hU hW => ⟨rfl, by rw [hU], zx_at hz hW (fun a _ _ => by rw [hU]) (fun q h => h), by rw [hU]; exact hP, va_K.moved hW.alike hK⟩⟩ rfl rfl hl.1 rfl (lv_room (Nat.le_of_ble_eq_true rfl)) dL_section_3 ⟨Nat.le_of_ble_eq_true rfl, Nat.le_of_ble_eq_true rfl⟩) (va_S.rf (A := cA ad s.heap.size) (H0 := s.heap)) (fun q _ h => h) (fun q h => h) (fun q _ h => h) (fun E ce q9 u t9 H1 locs1 ht hvm hpx hB hz1 hk1 hS hc1 hc2 hc3 => ?_) (fun r u t9 H1 locs1 ht hvm hw hB hz1 hk1 hS => ?_)
  · obtain ⟨hE, hB⟩ := hB
    have hP1 : va_P D vwCl (cwW Y ad mu) H1 := by rw [← ht]; exact hB.1
    rcases hk with ⟨h0, -⟩ | ⟨h0, rfl⟩ | ⟨h0, rfl⟩
    · exact absurd h0 hpx
    · have hE1 : E = "java/lang/IndexOutOfBoundsException" := by rw [hE, h0]; rfl
      subst hE1
      refine vx_catch hown [] ⟨0, 6, 7, 15⟩ [⟨0, 6, 11, 17⟩] (hT.trans rfl) (fun z h => nomatch h) (by decide) (by decide) (hts _ gclL_15) (va_Nw.use rfl hz.2.2.1) hc1 hc2 hc3 ?_
      refine lv_astore_n (lv' := [(3, .ref q9), (0, .ref (ad 150)), (1, .int x1), (2, .int x2)]) hx hb dL_section_7 rfl hl (by decide) rfl (fun ls hl => ?_)
      refine lv_bipush (v := (-3)) hx hb dL_section_8 (by decide) ?_
      exact hl_iw hx hb hr hlk hK hP1 hS (Nat.le_of_ble_eq_true rfl) (Nat.le_of_ble_eq_true rfl) dL_section_10
    · have hE1 : E = "java/lang/IllegalArgumentException" := by rw [hE, h0]; rfl
      subst hE1
      refine vx_catch hown [⟨0, 6, 7, 15⟩] ⟨0, 6, 11, 17⟩ [] (hT.trans rfl) (fun z h => by obtain rfl := List.mem_singleton.mp h; exact Or.inr ⟨by decide, "java/lang/IndexOutOfBoundsException", hts _ gclL_15, hn.1⟩) (by decide) (by decide) (hts _ gclL_17) (va_Nw.use rfl hz.2.2.2.1) hc1 hc2 hc3 ?_
      refine lv_astore_n (lv' := [(3, .ref q9), (0, .ref (ad 150)), (1, .int x1), (2, .int x2)]) hx hb dL_section_11 rfl hl (by decide) rfl (fun ls hl => ?_)
      refine lv_bipush (v := (-2)) hx hb dL_section_12 (by decide) ?_
      exact hl_iw hx hb hr hlk hK hP1 hS (Nat.le_of_ble_eq_true rfl) (Nat.le_of_ble_eq_true rfl) dL_section_14
  · obtain ⟨rfl, h0⟩ := hw
    have hP1 : va_P D vwCl (cwW Y ad mu) H1 := by rw [← ht]; exact hB.1
    have hkc : t0 = t.2 := by
      rcases hk with ⟨_, q⟩ | ⟨q, _⟩ | ⟨q, _⟩
      · exact q
      · exact absurd (q.symm.trans h0) (by decide)
      · exact absurd (q.symm.trans h0) (by decide)
    subst hkc
    exact hl_iw hx hb hr hlk hK hP1 hS (Nat.le_of_ble_eq_true rfl) (Nat.le_of_ble_eq_true rfl) dL_section_6
def f6_carOf_0 (mu : Nat → Nat → Int32) (x1 x2 : Int32) : Option Int32 := Option.bind (f4_carOf_0 mu x1 x2) (fun t => if t.1 = 0 then some t.2 else if t.1 = 1 then some (-3) else if t.1 = 2 then some (-2) else none)
set_option maxRecDepth 100000 in
set_option maxHeartbeats 4000000 in
theorem h6_carOf (l : Launch) {D : va_G} {Y : cYt} {ad : Nat → Nat} {mu : Nat → Nat → Int32} (hI : cInj ad) (hl0 : l.stackTraces = false) (sz : Nat) (x1 : Int32) (x2 : Int32) {t0 : Int32} (hf0 : f6_carOf_0 mu x1 x2 = some t0) : vx_Met l yL_carOf uL_carOf rmL (va_Pc [.ref (ad 150), .int x1, .int x2] (fun U => U.heap.size = sz ∧ lZ ad sz U ∧ cB D Y ad mu U)) (va_Qi (fun (r9 : Int32) (_ : Unit) => r9 = t0) (fun _ t9 => cB D Y ad mu t9) (cA ad sz)) (vx_X (fun (_ : Unit) => False) (fun _ _ _ => True) (cA ad sz)) 3 18 (cA ad sz) := by
  obtain ⟨t, hf, hf1⟩ := bd_o hf0
  have hk : t.1 = 0 ∧ t0 = t.2 ∨ t.1 = 1 ∧ t0 = (-3) ∨ t.1 = 2 ∧ t0 = (-2) := by
    by_cases e0 : t.1 = 0
    · exact Or.inl ⟨e0, (so_i (it_t e0 hf1)).symm⟩
    have hg0 := it_f e0 hf1
    by_cases e1 : t.1 = 1
    · exact Or.inr (Or.inl ⟨e1, (so_i (it_t e1 hg0)).symm⟩)
    have hg1 := it_f e1 hg0
    by_cases e2 : t.1 = 2
    · exact Or.inr (Or.inr (⟨e2, (so_i (it_t e2 hg1)).symm⟩))
    have hg2 := it_f e2 hg1
    cases hg2
  refine vx_ofWH (cc := cL_carOf) (maxL := 4) (ret := some .int) (hh := [(0, 6, 7, 15), (0, 6, 11, 17)]) (by decide) rfl ?_
  intro p e s m args below meth c s₁ B hml hv
  obtain ⟨rfl, hsz, ⟨hz, hn⟩, ⟨hP, hK⟩⟩ := hv
  subst hsz
  have hx := B.exec
  have hb := B.bytes
  have hr := B.returns
  have hlk := B.notSynchronized
  have hown : s.vm.findClass RL = some m.cls := findClass_of_methodNamed B.named
  have hts : ∀ w ∈ gw, w.before ([.ref (ad 150), .int x1, .int x2] : List Value).toArray s = true := fun w h => atoms_spec (ws := uL_carOf) B.pre w (List.mem_cons_of_mem _ h)
  have hT : c.exceptionTable.toList = tableOf [(0, 6, 7, 15), (0, 6, 11, 17)] := vx_table (x := yL_carOf) B (atoms_spec (ws := uL_carOf) B.pre _ List.mem_cons_self)
  have S : CallFix p m c cL_carOf 4 s ([.ref (ad 150), .int x1, .int x2] : List Value).toArray gw RL := ⟨hx, hb, hml, hown, hts⟩
  have hl := lv_entry ([.ref (ad 150), .int x1, .int x2]) (n := 4) (Nat.le_of_ble_eq_true rfl)
  rw [lg_entry_eq]
  generalize (lg_sl ([.ref (ad 150), .int x1, .int x2]) ++ List.replicate (4 - (lg_sl ([.ref (ad 150), .int x1, .int x2])).length) Slot.unset).toArray = ls at hl ⊢
  have hl : lv_has ls 4 [(0, .ref (ad 150)), (1, .int x1), (2, .int x2)] := hl
  refine lv_aload_n hx hb dL_carOf_0 rfl (lv_at hl 0 rfl) ?_
  refine lv_iload_n hx hb dL_carOf_1 rfl (lv_at hl 1 rfl) ?_
  refine lv_iload_n hx hb dL_carOf_2 rfl (lv_at hl 2 rfl) ?_
  refine vx_calli (vx_runV (As := [.int x1, .int x2]) (rest := []) S (c4_carOf l hI hl0 s.heap.size x1 x2 hf) (cwV 2 hts qL_50 rfl rfl rfl (by decide +kernel) ⟨Nat.le_of_ble_eq_true rfl, Nat.le_of_ble_eq_true rfl⟩) ⟨hc_bl, va_recv hK hP (ci := 4) (q0 := 150) rfl (cw_ate (by omega) rfl), fun U hU hW => ⟨rfl, by rw [hU], zx_at hz hW (fun a _ _ => by rw [hU]) (fun q h => h), by rw [hU]; exact hP, va_K.moved hW.alike hK⟩⟩ rfl rfl hl.1 rfl (lv_room (Nat.le_of_ble_eq_true rfl)) dL_carOf_3 ⟨Nat.le_of_ble_eq_true rfl, Nat.le_of_ble_eq_true rfl⟩) (va_S.rf (A := cA ad s.heap.size) (H0 := s.heap)) (fun q _ h => h) (fun q h => h) (fun q _ h => h) (fun E ce q9 u t9 H1 locs1 ht hvm hpx hB hz1 hk1 hS hc1 hc2 hc3 => ?_) (fun r u t9 H1 locs1 ht hvm hw hB hz1 hk1 hS => ?_)
  · obtain ⟨hE, hB⟩ := hB
    have hP1 : va_P D vwCl (cwW Y ad mu) H1 := by rw [← ht]; exact hB.1
    rcases hk with ⟨h0, -⟩ | ⟨h0, rfl⟩ | ⟨h0, rfl⟩
    · exact absurd h0 hpx
    · have hE1 : E = "java/lang/IndexOutOfBoundsException" := by rw [hE, h0]; rfl
      subst hE1
      refine vx_catch hown [] ⟨0, 6, 7, 15⟩ [⟨0, 6, 11, 17⟩] (hT.trans rfl) (fun z h => nomatch h) (by decide) (by decide) (hts _ gclL_15) (va_Nw.use rfl hz.2.2.1) hc1 hc2 hc3 ?_
      refine lv_astore_n (lv' := [(3, .ref q9), (0, .ref (ad 150)), (1, .int x1), (2, .int x2)]) hx hb dL_carOf_7 rfl hl (by decide) rfl (fun ls hl => ?_)
      refine lv_bipush (v := (-3)) hx hb dL_carOf_8 (by decide) ?_
      exact hl_iw hx hb hr hlk hK hP1 hS (Nat.le_of_ble_eq_true rfl) (Nat.le_of_ble_eq_true rfl) dL_carOf_10
    · have hE1 : E = "java/lang/IllegalArgumentException" := by rw [hE, h0]; rfl
      subst hE1
      refine vx_catch hown [⟨0, 6, 7, 15⟩] ⟨0, 6, 11, 17⟩ [] (hT.trans rfl) (fun z h => by obtain rfl := List.mem_singleton.mp h; exact Or.inr ⟨by decide, "java/lang/IndexOutOfBoundsException", hts _ gclL_15, hn.1⟩) (by decide) (by decide) (hts _ gclL_17) (va_Nw.use rfl hz.2.2.2.1) hc1 hc2 hc3 ?_
      refine lv_astore_n (lv' := [(3, .ref q9), (0, .ref (ad 150)), (1, .int x1), (2, .int x2)]) hx hb dL_carOf_11 rfl hl (by decide) rfl (fun ls hl => ?_)
      refine lv_bipush (v := (-2)) hx hb dL_carOf_12 (by decide) ?_
      exact hl_iw hx hb hr hlk hK hP1 hS (Nat.le_of_ble_eq_true rfl) (Nat.le_of_ble_eq_true rfl) dL_carOf_14
  · obtain ⟨rfl, h0⟩ := hw
    have hP1 : va_P D vwCl (cwW Y ad mu) H1 := by rw [← ht]; exact hB.1
    have hkc : t0 = t.2 := by
      rcases hk with ⟨_, q⟩ | ⟨q, _⟩ | ⟨q, _⟩
      · exact q
      · exact absurd (q.symm.trans h0) (by decide)
      · exact absurd (q.symm.trans h0) (by decide)
    subst hkc
    exact hl_iw hx hb hr hlk hK hP1 hS (Nat.le_of_ble_eq_true rfl) (Nat.le_of_ble_eq_true rfl) dL_carOf_6
def f6_cars_0 (mu : Nat → Nat → Int32) (x1 : Int32) : Option Int32 := Option.bind (f4_cars_0 mu x1) (fun t => if t.1 = 0 then some t.2 else if t.1 = 2 then some (-2) else none)
set_option maxRecDepth 100000 in
set_option maxHeartbeats 4000000 in
theorem h6_cars (l : Launch) {D : va_G} {Y : cYt} {ad : Nat → Nat} {mu : Nat → Nat → Int32} (hI : cInj ad) (hl0 : l.stackTraces = false) (sz : Nat) (x1 : Int32) {t0 : Int32} (hf0 : f6_cars_0 mu x1 = some t0) : vx_Met l yL_cars uL_cars rmL (va_Pc [.ref (ad 150), .int x1] (fun U => U.heap.size = sz ∧ lZ ad sz U ∧ cB D Y ad mu U)) (va_Qi (fun (r9 : Int32) (_ : Unit) => r9 = t0) (fun _ t9 => cB D Y ad mu t9) (cA ad sz)) (vx_X (fun (_ : Unit) => False) (fun _ _ _ => True) (cA ad sz)) 3 18 (cA ad sz) := by
  obtain ⟨t, hf, hf1⟩ := bd_o hf0
  have hk : t.1 = 0 ∧ t0 = t.2 ∨ t.1 = 2 ∧ t0 = (-2) := by
    by_cases e0 : t.1 = 0
    · exact Or.inl ⟨e0, (so_i (it_t e0 hf1)).symm⟩
    have hg0 := it_f e0 hf1
    by_cases e1 : t.1 = 2
    · exact Or.inr (⟨e1, (so_i (it_t e1 hg0)).symm⟩)
    have hg1 := it_f e1 hg0
    cases hg1
  refine vx_ofWH (cc := cL_cars) (maxL := 3) (ret := some .int) (hh := [(0, 5, 6, 17)]) (by decide) rfl ?_
  intro p e s m args below meth c s₁ B hml hv
  obtain ⟨rfl, hsz, ⟨hz, hn⟩, ⟨hP, hK⟩⟩ := hv
  subst hsz
  have hx := B.exec
  have hb := B.bytes
  have hr := B.returns
  have hlk := B.notSynchronized
  have hown : s.vm.findClass RL = some m.cls := findClass_of_methodNamed B.named
  have hts : ∀ w ∈ gw, w.before ([.ref (ad 150), .int x1] : List Value).toArray s = true := fun w h => atoms_spec (ws := uL_cars) B.pre w (List.mem_cons_of_mem _ h)
  have hT : c.exceptionTable.toList = tableOf [(0, 5, 6, 17)] := vx_table (x := yL_cars) B (atoms_spec (ws := uL_cars) B.pre _ List.mem_cons_self)
  have S : CallFix p m c cL_cars 3 s ([.ref (ad 150), .int x1] : List Value).toArray gw RL := ⟨hx, hb, hml, hown, hts⟩
  have hl := lv_entry ([.ref (ad 150), .int x1]) (n := 3) (Nat.le_of_ble_eq_true rfl)
  rw [lg_entry_eq]
  generalize (lg_sl ([.ref (ad 150), .int x1]) ++ List.replicate (3 - (lg_sl ([.ref (ad 150), .int x1])).length) Slot.unset).toArray = ls at hl ⊢
  have hl : lv_has ls 3 [(0, .ref (ad 150)), (1, .int x1)] := hl
  refine lv_aload_n hx hb dL_cars_0 rfl (lv_at hl 0 rfl) ?_
  refine lv_iload_n hx hb dL_cars_1 rfl (lv_at hl 1 rfl) ?_
  refine vx_calli (vx_runV (As := [.int x1]) (rest := []) S (c4_cars l hI hl0 s.heap.size x1 hf) (cwV 1 hts qL_53 rfl rfl rfl (by decide +kernel) ⟨Nat.le_of_ble_eq_true rfl, Nat.le_of_ble_eq_true rfl⟩) ⟨hc_bl, va_recv hK hP (ci := 4) (q0 := 150) rfl (cw_ate (by omega) rfl), fun U hU hW => ⟨rfl, by rw [hU], zx_at hz hW (fun a _ _ => by rw [hU]) (fun q h => h), by rw [hU]; exact hP, va_K.moved hW.alike hK⟩⟩ rfl rfl hl.1 rfl (lv_room (Nat.le_of_ble_eq_true rfl)) dL_cars_2 ⟨Nat.le_of_ble_eq_true rfl, Nat.le_of_ble_eq_true rfl⟩) (va_S.rf (A := cA ad s.heap.size) (H0 := s.heap)) (fun q _ h => h) (fun q h => h) (fun q _ h => h) (fun E ce q9 u t9 H1 locs1 ht hvm hpx hB hz1 hk1 hS hc1 hc2 hc3 => ?_) (fun r u t9 H1 locs1 ht hvm hw hB hz1 hk1 hS => ?_)
  · obtain ⟨hE, hB⟩ := hB
    have hP1 : va_P D vwCl (cwW Y ad mu) H1 := by rw [← ht]; exact hB.1
    rcases hk with ⟨h0, -⟩ | ⟨h0, rfl⟩
    · exact absurd h0 hpx
    · have hE1 : E = "java/lang/IllegalArgumentException" := by rw [hE, h0]; rfl
      subst hE1
      refine vx_catch hown [] ⟨0, 5, 6, 17⟩ [] (hT.trans rfl) (fun z h => nomatch h) (by decide) (by decide) (hts _ gclL_17) (va_Nw.use rfl hz.2.2.2.1) hc1 hc2 hc3 ?_
      refine lv_astore_n (lv' := [(2, .ref q9), (0, .ref (ad 150)), (1, .int x1)]) hx hb dL_cars_6 rfl hl (by decide) rfl (fun ls hl => ?_)
      refine lv_bipush (v := (-2)) hx hb dL_cars_7 (by decide) ?_
      exact hl_iw hx hb hr hlk hK hP1 hS (Nat.le_of_ble_eq_true rfl) (Nat.le_of_ble_eq_true rfl) dL_cars_9
  · obtain ⟨rfl, h0⟩ := hw
    have hP1 : va_P D vwCl (cwW Y ad mu) H1 := by rw [← ht]; exact hB.1
    have hkc : t0 = t.2 := by
      rcases hk with ⟨_, q⟩ | ⟨q, _⟩
      · exact q
      · exact absurd (q.symm.trans h0) (by decide)
    subst hkc
    exact hl_iw hx hb hr hlk hK hP1 hS (Nat.le_of_ble_eq_true rfl) (Nat.le_of_ble_eq_true rfl) dL_cars_5
def f6_rolling_0 (mu : Nat → Nat → Int32) (x1 : Int32) : Option Int32 := Option.bind (f4_rolling_0 mu x1) (fun t => if t.1 = 0 then some t.2 else if t.1 = 2 then some (-2) else none)
set_option maxRecDepth 100000 in
set_option maxHeartbeats 4000000 in
theorem h6_rolling (l : Launch) {D : va_G} {Y : cYt} {ad : Nat → Nat} {mu : Nat → Nat → Int32} (hI : cInj ad) (hl0 : l.stackTraces = false) (sz : Nat) (x1 : Int32) {t0 : Int32} (hf0 : f6_rolling_0 mu x1 = some t0) : vx_Met l yL_rolling uL_rolling rmL (va_Pc [.ref (ad 150), .int x1] (fun U => U.heap.size = sz ∧ lZ ad sz U ∧ cB D Y ad mu U)) (va_Qi (fun (r9 : Int32) (_ : Unit) => r9 = t0) (fun _ t9 => cB D Y ad mu t9) (cA ad sz)) (vx_X (fun (_ : Unit) => False) (fun _ _ _ => True) (cA ad sz)) 3 18 (cA ad sz) := by
  obtain ⟨t, hf, hf1⟩ := bd_o hf0
  have hk : t.1 = 0 ∧ t0 = t.2 ∨ t.1 = 2 ∧ t0 = (-2) := by
    by_cases e0 : t.1 = 0
    · exact Or.inl ⟨e0, (so_i (it_t e0 hf1)).symm⟩
    have hg0 := it_f e0 hf1
    by_cases e1 : t.1 = 2
    · exact Or.inr (⟨e1, (so_i (it_t e1 hg0)).symm⟩)
    have hg1 := it_f e1 hg0
    cases hg1
  refine vx_ofWH (cc := cL_rolling) (maxL := 3) (ret := some .int) (hh := [(0, 5, 6, 17)]) (by decide) rfl ?_
  intro p e s m args below meth c s₁ B hml hv
  obtain ⟨rfl, hsz, ⟨hz, hn⟩, ⟨hP, hK⟩⟩ := hv
  subst hsz
  have hx := B.exec
  have hb := B.bytes
  have hr := B.returns
  have hlk := B.notSynchronized
  have hown : s.vm.findClass RL = some m.cls := findClass_of_methodNamed B.named
  have hts : ∀ w ∈ gw, w.before ([.ref (ad 150), .int x1] : List Value).toArray s = true := fun w h => atoms_spec (ws := uL_rolling) B.pre w (List.mem_cons_of_mem _ h)
  have hT : c.exceptionTable.toList = tableOf [(0, 5, 6, 17)] := vx_table (x := yL_rolling) B (atoms_spec (ws := uL_rolling) B.pre _ List.mem_cons_self)
  have S : CallFix p m c cL_rolling 3 s ([.ref (ad 150), .int x1] : List Value).toArray gw RL := ⟨hx, hb, hml, hown, hts⟩
  have hl := lv_entry ([.ref (ad 150), .int x1]) (n := 3) (Nat.le_of_ble_eq_true rfl)
  rw [lg_entry_eq]
  generalize (lg_sl ([.ref (ad 150), .int x1]) ++ List.replicate (3 - (lg_sl ([.ref (ad 150), .int x1])).length) Slot.unset).toArray = ls at hl ⊢
  have hl : lv_has ls 3 [(0, .ref (ad 150)), (1, .int x1)] := hl
  refine lv_aload_n hx hb dL_rolling_0 rfl (lv_at hl 0 rfl) ?_
  refine lv_iload_n hx hb dL_rolling_1 rfl (lv_at hl 1 rfl) ?_
  refine vx_calli (vx_runV (As := [.int x1]) (rest := []) S (c4_rolling l hI hl0 s.heap.size x1 hf) (cwV 1 hts qL_56 rfl rfl rfl (by decide +kernel) ⟨Nat.le_of_ble_eq_true rfl, Nat.le_of_ble_eq_true rfl⟩) ⟨hc_bl, va_recv hK hP (ci := 4) (q0 := 150) rfl (cw_ate (by omega) rfl), fun U hU hW => ⟨rfl, by rw [hU], zx_at hz hW (fun a _ _ => by rw [hU]) (fun q h => h), by rw [hU]; exact hP, va_K.moved hW.alike hK⟩⟩ rfl rfl hl.1 rfl (lv_room (Nat.le_of_ble_eq_true rfl)) dL_rolling_2 ⟨Nat.le_of_ble_eq_true rfl, Nat.le_of_ble_eq_true rfl⟩) (va_S.rf (A := cA ad s.heap.size) (H0 := s.heap)) (fun q _ h => h) (fun q h => h) (fun q _ h => h) (fun E ce q9 u t9 H1 locs1 ht hvm hpx hB hz1 hk1 hS hc1 hc2 hc3 => ?_) (fun r u t9 H1 locs1 ht hvm hw hB hz1 hk1 hS => ?_)
  · obtain ⟨hE, hB⟩ := hB
    have hP1 : va_P D vwCl (cwW Y ad mu) H1 := by rw [← ht]; exact hB.1
    rcases hk with ⟨h0, -⟩ | ⟨h0, rfl⟩
    · exact absurd h0 hpx
    · have hE1 : E = "java/lang/IllegalArgumentException" := by rw [hE, h0]; rfl
      subst hE1
      refine vx_catch hown [] ⟨0, 5, 6, 17⟩ [] (hT.trans rfl) (fun z h => nomatch h) (by decide) (by decide) (hts _ gclL_17) (va_Nw.use rfl hz.2.2.2.1) hc1 hc2 hc3 ?_
      refine lv_astore_n (lv' := [(2, .ref q9), (0, .ref (ad 150)), (1, .int x1)]) hx hb dL_rolling_6 rfl hl (by decide) rfl (fun ls hl => ?_)
      refine lv_bipush (v := (-2)) hx hb dL_rolling_7 (by decide) ?_
      exact hl_iw hx hb hr hlk hK hP1 hS (Nat.le_of_ble_eq_true rfl) (Nat.le_of_ble_eq_true rfl) dL_rolling_9
  · obtain ⟨rfl, h0⟩ := hw
    have hP1 : va_P D vwCl (cwW Y ad mu) H1 := by rw [← ht]; exact hB.1
    have hkc : t0 = t.2 := by
      rcases hk with ⟨_, q⟩ | ⟨q, _⟩
      · exact q
      · exact absurd (q.symm.trans h0) (by decide)
    subst hkc
    exact hl_iw hx hb hr hlk hK hP1 hS (Nat.le_of_ble_eq_true rfl) (Nat.le_of_ble_eq_true rfl) dL_rolling_5
def f6_count_0 (mu : Nat → Nat → Int32) (x1 : Int32) : Option Int32 := Option.bind (f4_count_0 mu x1) (fun t => if t.1 = 0 then some t.2 else if t.1 = 2 then some (-2) else none)
set_option maxRecDepth 100000 in
set_option maxHeartbeats 4000000 in
theorem h6_count (l : Launch) {D : va_G} {Y : cYt} {ad : Nat → Nat} {mu : Nat → Nat → Int32} (hI : cInj ad) (hl0 : l.stackTraces = false) (sz : Nat) (x1 : Int32) {t0 : Int32} (hf0 : f6_count_0 mu x1 = some t0) : vx_Met l yL_count uL_count rmL (va_Pc [.ref (ad 150), .int x1] (fun U => U.heap.size = sz ∧ lZ ad sz U ∧ cB D Y ad mu U)) (va_Qi (fun (r9 : Int32) (_ : Unit) => r9 = t0) (fun _ t9 => cB D Y ad mu t9) (cA ad sz)) (vx_X (fun (_ : Unit) => False) (fun _ _ _ => True) (cA ad sz)) 3 18 (cA ad sz) := by
  obtain ⟨t, hf, hf1⟩ := bd_o hf0
  have hk : t.1 = 0 ∧ t0 = t.2 ∨ t.1 = 2 ∧ t0 = (-2) := by
    by_cases e0 : t.1 = 0
    · exact Or.inl ⟨e0, (so_i (it_t e0 hf1)).symm⟩
    have hg0 := it_f e0 hf1
    by_cases e1 : t.1 = 2
    · exact Or.inr (⟨e1, (so_i (it_t e1 hg0)).symm⟩)
    have hg1 := it_f e1 hg0
    cases hg1
  refine vx_ofWH (cc := cL_count) (maxL := 3) (ret := some .int) (hh := [(0, 5, 6, 17)]) (by decide) rfl ?_
  intro p e s m args below meth c s₁ B hml hv
  obtain ⟨rfl, hsz, ⟨hz, hn⟩, ⟨hP, hK⟩⟩ := hv
  subst hsz
  have hx := B.exec
  have hb := B.bytes
  have hr := B.returns
  have hlk := B.notSynchronized
  have hown : s.vm.findClass RL = some m.cls := findClass_of_methodNamed B.named
  have hts : ∀ w ∈ gw, w.before ([.ref (ad 150), .int x1] : List Value).toArray s = true := fun w h => atoms_spec (ws := uL_count) B.pre w (List.mem_cons_of_mem _ h)
  have hT : c.exceptionTable.toList = tableOf [(0, 5, 6, 17)] := vx_table (x := yL_count) B (atoms_spec (ws := uL_count) B.pre _ List.mem_cons_self)
  have S : CallFix p m c cL_count 3 s ([.ref (ad 150), .int x1] : List Value).toArray gw RL := ⟨hx, hb, hml, hown, hts⟩
  have hl := lv_entry ([.ref (ad 150), .int x1]) (n := 3) (Nat.le_of_ble_eq_true rfl)
  rw [lg_entry_eq]
  generalize (lg_sl ([.ref (ad 150), .int x1]) ++ List.replicate (3 - (lg_sl ([.ref (ad 150), .int x1])).length) Slot.unset).toArray = ls at hl ⊢
  have hl : lv_has ls 3 [(0, .ref (ad 150)), (1, .int x1)] := hl
  refine lv_aload_n hx hb dL_count_0 rfl (lv_at hl 0 rfl) ?_
  refine lv_iload_n hx hb dL_count_1 rfl (lv_at hl 1 rfl) ?_
  refine vx_calli (vx_runV (As := [.int x1]) (rest := []) S (c4_count l hI hl0 s.heap.size x1 hf) (cwV 1 hts qL_59 rfl rfl rfl (by decide +kernel) ⟨Nat.le_of_ble_eq_true rfl, Nat.le_of_ble_eq_true rfl⟩) ⟨hc_bl, va_recv hK hP (ci := 4) (q0 := 150) rfl (cw_ate (by omega) rfl), fun U hU hW => ⟨rfl, by rw [hU], zx_at hz hW (fun a _ _ => by rw [hU]) (fun q h => h), by rw [hU]; exact hP, va_K.moved hW.alike hK⟩⟩ rfl rfl hl.1 rfl (lv_room (Nat.le_of_ble_eq_true rfl)) dL_count_2 ⟨Nat.le_of_ble_eq_true rfl, Nat.le_of_ble_eq_true rfl⟩) (va_S.rf (A := cA ad s.heap.size) (H0 := s.heap)) (fun q _ h => h) (fun q h => h) (fun q _ h => h) (fun E ce q9 u t9 H1 locs1 ht hvm hpx hB hz1 hk1 hS hc1 hc2 hc3 => ?_) (fun r u t9 H1 locs1 ht hvm hw hB hz1 hk1 hS => ?_)
  · obtain ⟨hE, hB⟩ := hB
    have hP1 : va_P D vwCl (cwW Y ad mu) H1 := by rw [← ht]; exact hB.1
    rcases hk with ⟨h0, -⟩ | ⟨h0, rfl⟩
    · exact absurd h0 hpx
    · have hE1 : E = "java/lang/IllegalArgumentException" := by rw [hE, h0]; rfl
      subst hE1
      refine vx_catch hown [] ⟨0, 5, 6, 17⟩ [] (hT.trans rfl) (fun z h => nomatch h) (by decide) (by decide) (hts _ gclL_17) (va_Nw.use rfl hz.2.2.2.1) hc1 hc2 hc3 ?_
      refine lv_astore_n (lv' := [(2, .ref q9), (0, .ref (ad 150)), (1, .int x1)]) hx hb dL_count_6 rfl hl (by decide) rfl (fun ls hl => ?_)
      refine lv_bipush (v := (-2)) hx hb dL_count_7 (by decide) ?_
      exact hl_iw hx hb hr hlk hK hP1 hS (Nat.le_of_ble_eq_true rfl) (Nat.le_of_ble_eq_true rfl) dL_count_9
  · obtain ⟨rfl, h0⟩ := hw
    have hP1 : va_P D vwCl (cwW Y ad mu) H1 := by rw [← ht]; exact hB.1
    have hkc : t0 = t.2 := by
      rcases hk with ⟨_, q⟩ | ⟨q, _⟩
      · exact q
      · exact absurd (q.symm.trans h0) (by decide)
    subst hkc
    exact hl_iw hx hb hr hlk hK hP1 hS (Nat.le_of_ble_eq_true rfl) (Nat.le_of_ble_eq_true rfl) dL_count_5
def f6_refusal_0 (mu : Nat → Nat → Int32) (x1 x2 : Int32) : Option Int32 := Option.bind (f4_refusal_0 mu x1 x2) (fun t => if t.1 = 0 then some t.2 else if t.1 = 1 then some (-3) else none)
set_option maxRecDepth 100000 in
set_option maxHeartbeats 4000000 in
theorem h6_refusal (l : Launch) {D : va_G} {Y : cYt} {ad : Nat → Nat} {mu : Nat → Nat → Int32} (hI : cInj ad) (hl0 : l.stackTraces = false) (sz : Nat) (x1 : Int32) (x2 : Int32) {t0 : Int32} (hf0 : f6_refusal_0 mu x1 x2 = some t0) : vx_Met l yL_refusal uL_refusal rmL (va_Pc [.ref (ad 150), .int x1, .int x2] (fun U => U.heap.size = sz ∧ lZ ad sz U ∧ cB D Y ad mu U)) (va_Qi (fun (r9 : Int32) (_ : Unit) => r9 = t0) (fun _ t9 => cB D Y ad mu t9) (cA ad sz)) (vx_X (fun (_ : Unit) => False) (fun _ _ _ => True) (cA ad sz)) 3 18 (cA ad sz) := by
  obtain ⟨t, hf, hf1⟩ := bd_o hf0
  have hk : t.1 = 0 ∧ t0 = t.2 ∨ t.1 = 1 ∧ t0 = (-3) := by
    by_cases e0 : t.1 = 0
    · exact Or.inl ⟨e0, (so_i (it_t e0 hf1)).symm⟩
    have hg0 := it_f e0 hf1
    by_cases e1 : t.1 = 1
    · exact Or.inr (⟨e1, (so_i (it_t e1 hg0)).symm⟩)
    have hg1 := it_f e1 hg0
    cases hg1
  refine vx_ofWH (cc := cL_refusal) (maxL := 4) (ret := some .int) (hh := [(0, 6, 7, 15)]) (by decide) rfl ?_
  intro p e s m args below meth c s₁ B hml hv
  obtain ⟨rfl, hsz, ⟨hz, hn⟩, ⟨hP, hK⟩⟩ := hv
  subst hsz
  have hx := B.exec
  have hb := B.bytes
  have hr := B.returns
  have hlk := B.notSynchronized
  have hown : s.vm.findClass RL = some m.cls := findClass_of_methodNamed B.named
  have hts : ∀ w ∈ gw, w.before ([.ref (ad 150), .int x1, .int x2] : List Value).toArray s = true := fun w h => atoms_spec (ws := uL_refusal) B.pre w (List.mem_cons_of_mem _ h)
  have hT : c.exceptionTable.toList = tableOf [(0, 6, 7, 15)] := vx_table (x := yL_refusal) B (atoms_spec (ws := uL_refusal) B.pre _ List.mem_cons_self)
  have S : CallFix p m c cL_refusal 4 s ([.ref (ad 150), .int x1, .int x2] : List Value).toArray gw RL := ⟨hx, hb, hml, hown, hts⟩
  have hl := lv_entry ([.ref (ad 150), .int x1, .int x2]) (n := 4) (Nat.le_of_ble_eq_true rfl)
  rw [lg_entry_eq]
  generalize (lg_sl ([.ref (ad 150), .int x1, .int x2]) ++ List.replicate (4 - (lg_sl ([.ref (ad 150), .int x1, .int x2])).length) Slot.unset).toArray = ls at hl ⊢
  have hl : lv_has ls 4 [(0, .ref (ad 150)), (1, .int x1), (2, .int x2)] := hl
  refine lv_aload_n hx hb dL_refusal_0 rfl (lv_at hl 0 rfl) ?_
  refine lv_iload_n hx hb dL_refusal_1 rfl (lv_at hl 1 rfl) ?_
  refine lv_iload_n hx hb dL_refusal_2 rfl (lv_at hl 2 rfl) ?_
  refine vx_calli (vx_runV (As := [.int x1, .int x2]) (rest := []) S (c4_refusal l hI hl0 s.heap.size x1 x2 hf) (cwV 2 hts qL_62 rfl rfl rfl (by decide +kernel) ⟨Nat.le_of_ble_eq_true rfl, Nat.le_of_ble_eq_true rfl⟩) ⟨hc_bl, va_recv hK hP (ci := 4) (q0 := 150) rfl (cw_ate (by omega) rfl), fun U hU hW => ⟨rfl, by rw [hU], zx_at hz hW (fun a _ _ => by rw [hU]) (fun q h => h), by rw [hU]; exact hP, va_K.moved hW.alike hK⟩⟩ rfl rfl hl.1 rfl (lv_room (Nat.le_of_ble_eq_true rfl)) dL_refusal_3 ⟨Nat.le_of_ble_eq_true rfl, Nat.le_of_ble_eq_true rfl⟩) (va_S.rf (A := cA ad s.heap.size) (H0 := s.heap)) (fun q _ h => h) (fun q h => h) (fun q _ h => h) (fun E ce q9 u t9 H1 locs1 ht hvm hpx hB hz1 hk1 hS hc1 hc2 hc3 => ?_) (fun r u t9 H1 locs1 ht hvm hw hB hz1 hk1 hS => ?_)
  · obtain ⟨hE, hB⟩ := hB
    have hP1 : va_P D vwCl (cwW Y ad mu) H1 := by rw [← ht]; exact hB.1
    rcases hk with ⟨h0, -⟩ | ⟨h0, rfl⟩
    · exact absurd h0 hpx
    · have hE1 : E = "java/lang/IndexOutOfBoundsException" := by rw [hE, h0]; rfl
      subst hE1
      refine vx_catch hown [] ⟨0, 6, 7, 15⟩ [] (hT.trans rfl) (fun z h => nomatch h) (by decide) (by decide) (hts _ gclL_15) (va_Nw.use rfl hz.2.2.1) hc1 hc2 hc3 ?_
      refine lv_astore_n (lv' := [(3, .ref q9), (0, .ref (ad 150)), (1, .int x1), (2, .int x2)]) hx hb dL_refusal_7 rfl hl (by decide) rfl (fun ls hl => ?_)
      refine lv_bipush (v := (-3)) hx hb dL_refusal_8 (by decide) ?_
      exact hl_iw hx hb hr hlk hK hP1 hS (Nat.le_of_ble_eq_true rfl) (Nat.le_of_ble_eq_true rfl) dL_refusal_10
  · obtain ⟨rfl, h0⟩ := hw
    have hP1 : va_P D vwCl (cwW Y ad mu) H1 := by rw [← ht]; exact hB.1
    have hkc : t0 = t.2 := by
      rcases hk with ⟨_, q⟩ | ⟨q, _⟩
      · exact q
      · exact absurd (q.symm.trans h0) (by decide)
    subst hkc
    exact hl_iw hx hb hr hlk hK hP1 hS (Nat.le_of_ble_eq_true rfl) (Nat.le_of_ble_eq_true rfl) dL_refusal_6
def f6_append_0 (x1 : Int32) (mu : Nat → Nat → Int32) : Option (Int32 × (Nat → Nat → Int32)) := Option.bind (f4_append_0 x1 mu) (fun t => if t.1 = 0 then some (t.2.1, t.2.2) else if t.1 = 2 then some (-2, t.2.2) else if t.1 = 3 then some (-3, t.2.2) else none)
set_option maxRecDepth 100000 in
set_option maxHeartbeats 4000000 in
theorem h6_append (l : Launch) {D : va_G} {Y : cYt} {ad : Nat → Nat} {mu : Nat → Nat → Int32} (hI : cInj ad) (hl0 : l.stackTraces = false) (sz : Nat) (x1 : Int32) {t0 : Int32 × (Nat → Nat → Int32)} (hf0 : f6_append_0 x1 mu = some t0) : vx_Met l yL_append uL_append rmL (va_Pc [.ref (ad 150), .int x1] (fun U => U.heap.size = sz ∧ lZ ad sz U ∧ cB D Y ad mu U)) (va_Qi (fun (r9 : Int32) (_ : Unit) => r9 = t0.1) (fun _ t9 => cB D Y ad t0.2 t9) (cA ad sz)) (vx_X (fun (_ : Unit) => False) (fun _ _ _ => True) (cA ad sz)) 3 18 (cA ad sz) := by
  obtain ⟨t, hf, hf1⟩ := bd_o hf0
  have hk : t.1 = 0 ∧ t0 = (t.2.1, t.2.2) ∨ t.1 = 2 ∧ t0 = (-2, t.2.2) ∨ t.1 = 3 ∧ t0 = (-3, t.2.2) := by
    by_cases e0 : t.1 = 0
    · exact Or.inl ⟨e0, (so_i (it_t e0 hf1)).symm⟩
    have hg0 := it_f e0 hf1
    by_cases e1 : t.1 = 2
    · exact Or.inr (Or.inl ⟨e1, (so_i (it_t e1 hg0)).symm⟩)
    have hg1 := it_f e1 hg0
    by_cases e2 : t.1 = 3
    · exact Or.inr (Or.inr (⟨e2, (so_i (it_t e2 hg1)).symm⟩))
    have hg2 := it_f e2 hg1
    cases hg2
  refine vx_ofWH (cc := cL_append) (maxL := 3) (ret := some .int) (hh := [(0, 5, 6, 17), (0, 5, 10, 22)]) (by decide) rfl ?_
  intro p e s m args below meth c s₁ B hml hv
  obtain ⟨rfl, hsz, ⟨hz, hn⟩, ⟨hP, hK⟩⟩ := hv
  subst hsz
  have hx := B.exec
  have hb := B.bytes
  have hr := B.returns
  have hlk := B.notSynchronized
  have hown : s.vm.findClass RL = some m.cls := findClass_of_methodNamed B.named
  have hts : ∀ w ∈ gw, w.before ([.ref (ad 150), .int x1] : List Value).toArray s = true := fun w h => atoms_spec (ws := uL_append) B.pre w (List.mem_cons_of_mem _ h)
  have hT : c.exceptionTable.toList = tableOf [(0, 5, 6, 17), (0, 5, 10, 22)] := vx_table (x := yL_append) B (atoms_spec (ws := uL_append) B.pre _ List.mem_cons_self)
  have S : CallFix p m c cL_append 3 s ([.ref (ad 150), .int x1] : List Value).toArray gw RL := ⟨hx, hb, hml, hown, hts⟩
  have hl := lv_entry ([.ref (ad 150), .int x1]) (n := 3) (Nat.le_of_ble_eq_true rfl)
  rw [lg_entry_eq]
  generalize (lg_sl ([.ref (ad 150), .int x1]) ++ List.replicate (3 - (lg_sl ([.ref (ad 150), .int x1])).length) Slot.unset).toArray = ls at hl ⊢
  have hl : lv_has ls 3 [(0, .ref (ad 150)), (1, .int x1)] := hl
  refine lv_aload_n hx hb dL_append_0 rfl (lv_at hl 0 rfl) ?_
  refine lv_iload_n hx hb dL_append_1 rfl (lv_at hl 1 rfl) ?_
  refine vx_calli (vx_runV (As := [.int x1]) (rest := []) S (c4_append l hI hl0 s.heap.size x1 hf) (cwV 1 hts qL_66 rfl rfl rfl (by decide +kernel) ⟨Nat.le_of_ble_eq_true rfl, Nat.le_of_ble_eq_true rfl⟩) ⟨hc_bl, va_recv hK hP (ci := 4) (q0 := 150) rfl (cw_ate (by omega) rfl), fun U hU hW => ⟨rfl, by rw [hU], zx_at hz hW (fun a _ _ => by rw [hU]) (fun q h => h), by rw [hU]; exact hP, va_K.moved hW.alike hK⟩⟩ rfl rfl hl.1 rfl (lv_room (Nat.le_of_ble_eq_true rfl)) dL_append_2 ⟨Nat.le_of_ble_eq_true rfl, Nat.le_of_ble_eq_true rfl⟩) (va_S.rf (A := cA ad s.heap.size) (H0 := s.heap)) (fun q _ h => h) (fun q h => h) (fun q _ h => h) (fun E ce q9 u t9 H1 locs1 ht hvm hpx hB hz1 hk1 hS hc1 hc2 hc3 => ?_) (fun r u t9 H1 locs1 ht hvm hw hB hz1 hk1 hS => ?_)
  · obtain ⟨hE, hB⟩ := hB
    have hP1 : va_P D vwCl (cwW Y ad t.2.2) H1 := by rw [← ht]; exact hB.1
    rcases hk with ⟨h0, -⟩ | ⟨h0, rfl⟩ | ⟨h0, rfl⟩
    · exact absurd h0 hpx
    · have hE1 : E = "java/lang/IllegalArgumentException" := by rw [hE, h0]; rfl
      subst hE1
      refine vx_catch hown [] ⟨0, 5, 6, 17⟩ [⟨0, 5, 10, 22⟩] (hT.trans rfl) (fun z h => nomatch h) (by decide) (by decide) (hts _ gclL_17) (va_Nw.use rfl hz.2.2.2.1) hc1 hc2 hc3 ?_
      refine lv_astore_n (lv' := [(2, .ref q9), (0, .ref (ad 150)), (1, .int x1)]) hx hb dL_append_6 rfl hl (by decide) rfl (fun ls hl => ?_)
      refine lv_bipush (v := (-2)) hx hb dL_append_7 (by decide) ?_
      exact hl_iw hx hb hr hlk hK hP1 hS (Nat.le_of_ble_eq_true rfl) (Nat.le_of_ble_eq_true rfl) dL_append_9
    · have hE1 : E = "java/lang/IllegalStateException" := by rw [hE, h0]; rfl
      subst hE1
      refine vx_catch hown [⟨0, 5, 6, 17⟩] ⟨0, 5, 10, 22⟩ [] (hT.trans rfl) (fun z h => by obtain rfl := List.mem_singleton.mp h; exact Or.inr ⟨by decide, "java/lang/IllegalArgumentException", hts _ gclL_17, hn.2.2⟩) (by decide) (by decide) (hts _ gclL_22) (va_Nw.use rfl hz.2.2.2.2.1) hc1 hc2 hc3 ?_
      refine lv_astore_n (lv' := [(2, .ref q9), (0, .ref (ad 150)), (1, .int x1)]) hx hb dL_append_10 rfl hl (by decide) rfl (fun ls hl => ?_)
      refine lv_bipush (v := (-3)) hx hb dL_append_11 (by decide) ?_
      exact hl_iw hx hb hr hlk hK hP1 hS (Nat.le_of_ble_eq_true rfl) (Nat.le_of_ble_eq_true rfl) dL_append_13
  · obtain ⟨rfl, h0⟩ := hw
    have hP1 : va_P D vwCl (cwW Y ad t.2.2) H1 := by rw [← ht]; exact hB.1
    have hkc : t0 = (t.2.1, t.2.2) := by
      rcases hk with ⟨_, q⟩ | ⟨q, _⟩ | ⟨q, _⟩
      · exact q
      · exact absurd (q.symm.trans h0) (by decide)
      · exact absurd (q.symm.trans h0) (by decide)
    subst hkc
    exact hl_iw hx hb hr hlk hK hP1 hS (Nat.le_of_ble_eq_true rfl) (Nat.le_of_ble_eq_true rfl) dL_append_5
def f6_execute_0 (mu : Nat → Nat → Int32) : Option (Int32 × (Nat → Nat → Int32)) := Option.bind (f4_execute_0 mu) (fun t => if t.1 = 0 then some (t.2.1, t.2.2) else if t.1 = 2 then some (-2, t.2.2) else none)
set_option maxRecDepth 100000 in
set_option maxHeartbeats 4000000 in
theorem h6_execute (l : Launch) {D : va_G} {Y : cYt} {ad : Nat → Nat} {mu : Nat → Nat → Int32} (hI : cInj ad) (hl0 : l.stackTraces = false) (sz : Nat)  {t0 : Int32 × (Nat → Nat → Int32)} (hf0 : f6_execute_0 mu = some t0) : vx_Met l yL_execute uL_execute rmL (va_Pc [.ref (ad 150)] (fun U => U.heap.size = sz ∧ lZ ad sz U ∧ cB D Y ad mu U)) (va_Qi (fun (r9 : Int32) (_ : Unit) => r9 = t0.1) (fun _ t9 => cB D Y ad t0.2 t9) (cA ad sz)) (vx_X (fun (_ : Unit) => False) (fun _ _ _ => True) (cA ad sz)) 3 18 (cA ad sz) := by
  obtain ⟨t, hf, hf1⟩ := bd_o hf0
  have hk : t.1 = 0 ∧ t0 = (t.2.1, t.2.2) ∨ t.1 = 2 ∧ t0 = (-2, t.2.2) := by
    by_cases e0 : t.1 = 0
    · exact Or.inl ⟨e0, (so_i (it_t e0 hf1)).symm⟩
    have hg0 := it_f e0 hf1
    by_cases e1 : t.1 = 2
    · exact Or.inr (⟨e1, (so_i (it_t e1 hg0)).symm⟩)
    have hg1 := it_f e1 hg0
    cases hg1
  refine vx_ofWH (cc := cL_execute) (maxL := 2) (ret := some .int) (hh := [(0, 4, 5, 17)]) (by decide) rfl ?_
  intro p e s m args below meth c s₁ B hml hv
  obtain ⟨rfl, hsz, ⟨hz, hn⟩, ⟨hP, hK⟩⟩ := hv
  subst hsz
  have hx := B.exec
  have hb := B.bytes
  have hr := B.returns
  have hlk := B.notSynchronized
  have hown : s.vm.findClass RL = some m.cls := findClass_of_methodNamed B.named
  have hts : ∀ w ∈ gw, w.before ([.ref (ad 150)] : List Value).toArray s = true := fun w h => atoms_spec (ws := uL_execute) B.pre w (List.mem_cons_of_mem _ h)
  have hT : c.exceptionTable.toList = tableOf [(0, 4, 5, 17)] := vx_table (x := yL_execute) B (atoms_spec (ws := uL_execute) B.pre _ List.mem_cons_self)
  have S : CallFix p m c cL_execute 2 s ([.ref (ad 150)] : List Value).toArray gw RL := ⟨hx, hb, hml, hown, hts⟩
  have hl := lv_entry ([.ref (ad 150)]) (n := 2) (Nat.le_of_ble_eq_true rfl)
  rw [lg_entry_eq]
  generalize (lg_sl ([.ref (ad 150)]) ++ List.replicate (2 - (lg_sl ([.ref (ad 150)])).length) Slot.unset).toArray = ls at hl ⊢
  have hl : lv_has ls 2 [(0, .ref (ad 150))] := hl
  refine lv_aload_n hx hb dL_execute_0 rfl (lv_at hl 0 rfl) ?_
  refine vx_calli (vx_runV (As := []) (rest := []) S (c4_execute l hI hl0 s.heap.size  hf) (cwV 0 hts qL_69 rfl rfl rfl (by decide +kernel) ⟨Nat.le_of_ble_eq_true rfl, Nat.le_of_ble_eq_true rfl⟩) ⟨hc_bl, va_recv hK hP (ci := 4) (q0 := 150) rfl (cw_ate (by omega) rfl), fun U hU hW => ⟨rfl, by rw [hU], zx_at hz hW (fun a _ _ => by rw [hU]) (fun q h => h), by rw [hU]; exact hP, va_K.moved hW.alike hK⟩⟩ rfl rfl hl.1 rfl (lv_room (Nat.le_of_ble_eq_true rfl)) dL_execute_1 ⟨Nat.le_of_ble_eq_true rfl, Nat.le_of_ble_eq_true rfl⟩) (va_S.rf (A := cA ad s.heap.size) (H0 := s.heap)) (fun q _ h => h) (fun q h => h) (fun q _ h => h) (fun E ce q9 u t9 H1 locs1 ht hvm hpx hB hz1 hk1 hS hc1 hc2 hc3 => ?_) (fun r u t9 H1 locs1 ht hvm hw hB hz1 hk1 hS => ?_)
  · obtain ⟨hE, hB⟩ := hB
    have hP1 : va_P D vwCl (cwW Y ad t.2.2) H1 := by rw [← ht]; exact hB.1
    rcases hk with ⟨h0, -⟩ | ⟨h0, rfl⟩
    · exact absurd h0 hpx
    · have hE1 : E = "java/lang/IllegalArgumentException" := by rw [hE, h0]; rfl
      subst hE1
      refine vx_catch hown [] ⟨0, 4, 5, 17⟩ [] (hT.trans rfl) (fun z h => nomatch h) (by decide) (by decide) (hts _ gclL_17) (va_Nw.use rfl hz.2.2.2.1) hc1 hc2 hc3 ?_
      refine lv_astore_n (lv' := [(1, .ref q9), (0, .ref (ad 150))]) hx hb dL_execute_5 rfl hl (by decide) rfl (fun ls hl => ?_)
      refine lv_bipush (v := (-2)) hx hb dL_execute_6 (by decide) ?_
      exact hl_iw hx hb hr hlk hK hP1 hS (Nat.le_of_ble_eq_true rfl) (Nat.le_of_ble_eq_true rfl) dL_execute_8
  · obtain ⟨rfl, h0⟩ := hw
    have hP1 : va_P D vwCl (cwW Y ad t.2.2) H1 := by rw [← ht]; exact hB.1
    have hkc : t0 = (t.2.1, t.2.2) := by
      rcases hk with ⟨_, q⟩ | ⟨q, _⟩
      · exact q
      · exact absurd (q.symm.trans h0) (by decide)
    subst hkc
    exact hl_iw hx hb hr hlk hK hP1 hS (Nat.le_of_ble_eq_true rfl) (Nat.le_of_ble_eq_true rfl) dL_execute_4
def f6_undo_0 (mu : Nat → Nat → Int32) : Option (Int32 × (Nat → Nat → Int32)) := Option.bind (f4_undo_0 mu) (fun t => if t.1 = 0 then some (t.2.1, t.2.2) else if t.1 = 3 then some (-2, t.2.2) else none)
set_option maxRecDepth 100000 in
set_option maxHeartbeats 4000000 in
theorem h6_undo (l : Launch) {D : va_G} {Y : cYt} {ad : Nat → Nat} {mu : Nat → Nat → Int32} (hI : cInj ad) (hl0 : l.stackTraces = false) (sz : Nat)  {t0 : Int32 × (Nat → Nat → Int32)} (hf0 : f6_undo_0 mu = some t0) : vx_Met l yL_undo uL_undo rmL (va_Pc [.ref (ad 150)] (fun U => U.heap.size = sz ∧ lZ ad sz U ∧ cB D Y ad mu U)) (va_Qi (fun (r9 : Int32) (_ : Unit) => r9 = t0.1) (fun _ t9 => cB D Y ad t0.2 t9) (cA ad sz)) (vx_X (fun (_ : Unit) => False) (fun _ _ _ => True) (cA ad sz)) 3 18 (cA ad sz) := by
  obtain ⟨t, hf, hf1⟩ := bd_o hf0
  have hk : t.1 = 0 ∧ t0 = (t.2.1, t.2.2) ∨ t.1 = 3 ∧ t0 = (-2, t.2.2) := by
    by_cases e0 : t.1 = 0
    · exact Or.inl ⟨e0, (so_i (it_t e0 hf1)).symm⟩
    have hg0 := it_f e0 hf1
    by_cases e1 : t.1 = 3
    · exact Or.inr (⟨e1, (so_i (it_t e1 hg0)).symm⟩)
    have hg1 := it_f e1 hg0
    cases hg1
  refine vx_ofWH (cc := cL_undo) (maxL := 2) (ret := some .int) (hh := [(0, 4, 5, 22)]) (by decide) rfl ?_
  intro p e s m args below meth c s₁ B hml hv
  obtain ⟨rfl, hsz, ⟨hz, hn⟩, ⟨hP, hK⟩⟩ := hv
  subst hsz
  have hx := B.exec
  have hb := B.bytes
  have hr := B.returns
  have hlk := B.notSynchronized
  have hown : s.vm.findClass RL = some m.cls := findClass_of_methodNamed B.named
  have hts : ∀ w ∈ gw, w.before ([.ref (ad 150)] : List Value).toArray s = true := fun w h => atoms_spec (ws := uL_undo) B.pre w (List.mem_cons_of_mem _ h)
  have hT : c.exceptionTable.toList = tableOf [(0, 4, 5, 22)] := vx_table (x := yL_undo) B (atoms_spec (ws := uL_undo) B.pre _ List.mem_cons_self)
  have S : CallFix p m c cL_undo 2 s ([.ref (ad 150)] : List Value).toArray gw RL := ⟨hx, hb, hml, hown, hts⟩
  have hl := lv_entry ([.ref (ad 150)]) (n := 2) (Nat.le_of_ble_eq_true rfl)
  rw [lg_entry_eq]
  generalize (lg_sl ([.ref (ad 150)]) ++ List.replicate (2 - (lg_sl ([.ref (ad 150)])).length) Slot.unset).toArray = ls at hl ⊢
  have hl : lv_has ls 2 [(0, .ref (ad 150))] := hl
  refine lv_aload_n hx hb dL_undo_0 rfl (lv_at hl 0 rfl) ?_
  refine vx_calli (vx_runV (As := []) (rest := []) S (c4_undo l hI hl0 s.heap.size  hf) (cwV 0 hts qL_72 rfl rfl rfl (by decide +kernel) ⟨Nat.le_of_ble_eq_true rfl, Nat.le_of_ble_eq_true rfl⟩) ⟨hc_bl, va_recv hK hP (ci := 4) (q0 := 150) rfl (cw_ate (by omega) rfl), fun U hU hW => ⟨rfl, by rw [hU], zx_at hz hW (fun a _ _ => by rw [hU]) (fun q h => h), by rw [hU]; exact hP, va_K.moved hW.alike hK⟩⟩ rfl rfl hl.1 rfl (lv_room (Nat.le_of_ble_eq_true rfl)) dL_undo_1 ⟨Nat.le_of_ble_eq_true rfl, Nat.le_of_ble_eq_true rfl⟩) (va_S.rf (A := cA ad s.heap.size) (H0 := s.heap)) (fun q _ h => h) (fun q h => h) (fun q _ h => h) (fun E ce q9 u t9 H1 locs1 ht hvm hpx hB hz1 hk1 hS hc1 hc2 hc3 => ?_) (fun r u t9 H1 locs1 ht hvm hw hB hz1 hk1 hS => ?_)
  · obtain ⟨hE, hB⟩ := hB
    have hP1 : va_P D vwCl (cwW Y ad t.2.2) H1 := by rw [← ht]; exact hB.1
    rcases hk with ⟨h0, -⟩ | ⟨h0, rfl⟩
    · exact absurd h0 hpx
    · have hE1 : E = "java/lang/IllegalStateException" := by rw [hE, h0]; rfl
      subst hE1
      refine vx_catch hown [] ⟨0, 4, 5, 22⟩ [] (hT.trans rfl) (fun z h => nomatch h) (by decide) (by decide) (hts _ gclL_22) (va_Nw.use rfl hz.2.2.2.2.1) hc1 hc2 hc3 ?_
      refine lv_astore_n (lv' := [(1, .ref q9), (0, .ref (ad 150))]) hx hb dL_undo_5 rfl hl (by decide) rfl (fun ls hl => ?_)
      refine lv_bipush (v := (-2)) hx hb dL_undo_6 (by decide) ?_
      exact hl_iw hx hb hr hlk hK hP1 hS (Nat.le_of_ble_eq_true rfl) (Nat.le_of_ble_eq_true rfl) dL_undo_8
  · obtain ⟨rfl, h0⟩ := hw
    have hP1 : va_P D vwCl (cwW Y ad t.2.2) H1 := by rw [← ht]; exact hB.1
    have hkc : t0 = (t.2.1, t.2.2) := by
      rcases hk with ⟨_, q⟩ | ⟨q, _⟩
      · exact q
      · exact absurd (q.symm.trans h0) (by decide)
    subst hkc
    exact hl_iw hx hb hr hlk hK hP1 hS (Nat.le_of_ble_eq_true rfl) (Nat.le_of_ble_eq_true rfl) dL_undo_4
def f6_keep_0 (x1 : Int32) (mu : Nat → Nat → Int32) : Option (Int32 × (Nat → Nat → Int32)) := Option.bind (f4_keep_0 x1 mu) (fun t => if t.1 = 0 then some (t.2.1, t.2.2) else if t.1 = 2 then some (-2, t.2.2) else none)
set_option maxRecDepth 100000 in
set_option maxHeartbeats 4000000 in
theorem h6_keep (l : Launch) {D : va_G} {Y : cYt} {ad : Nat → Nat} {mu : Nat → Nat → Int32} (hI : cInj ad) (hl0 : l.stackTraces = false) (sz : Nat) (x1 : Int32) {t0 : Int32 × (Nat → Nat → Int32)} (hf0 : f6_keep_0 x1 mu = some t0) : vx_Met l yL_keep uL_keep rmL (va_Pc [.ref (ad 150), .int x1] (fun U => U.heap.size = sz ∧ lZ ad sz U ∧ cB D Y ad mu U)) (va_Qi (fun (r9 : Int32) (_ : Unit) => r9 = t0.1) (fun _ t9 => cB D Y ad t0.2 t9) (cA ad sz)) (vx_X (fun (_ : Unit) => False) (fun _ _ _ => True) (cA ad sz)) 3 18 (cA ad sz) := by
  obtain ⟨t, hf, hf1⟩ := bd_o hf0
  have hk : t.1 = 0 ∧ t0 = (t.2.1, t.2.2) ∨ t.1 = 2 ∧ t0 = (-2, t.2.2) := by
    by_cases e0 : t.1 = 0
    · exact Or.inl ⟨e0, (so_i (it_t e0 hf1)).symm⟩
    have hg0 := it_f e0 hf1
    by_cases e1 : t.1 = 2
    · exact Or.inr (⟨e1, (so_i (it_t e1 hg0)).symm⟩)
    have hg1 := it_f e1 hg0
    cases hg1
  refine vx_ofWH (cc := cL_keep) (maxL := 3) (ret := some .int) (hh := [(0, 5, 6, 17)]) (by decide) rfl ?_
  intro p e s m args below meth c s₁ B hml hv
  obtain ⟨rfl, hsz, ⟨hz, hn⟩, ⟨hP, hK⟩⟩ := hv
  subst hsz
  have hx := B.exec
  have hb := B.bytes
  have hr := B.returns
  have hlk := B.notSynchronized
  have hown : s.vm.findClass RL = some m.cls := findClass_of_methodNamed B.named
  have hts : ∀ w ∈ gw, w.before ([.ref (ad 150), .int x1] : List Value).toArray s = true := fun w h => atoms_spec (ws := uL_keep) B.pre w (List.mem_cons_of_mem _ h)
  have hT : c.exceptionTable.toList = tableOf [(0, 5, 6, 17)] := vx_table (x := yL_keep) B (atoms_spec (ws := uL_keep) B.pre _ List.mem_cons_self)
  have S : CallFix p m c cL_keep 3 s ([.ref (ad 150), .int x1] : List Value).toArray gw RL := ⟨hx, hb, hml, hown, hts⟩
  have hl := lv_entry ([.ref (ad 150), .int x1]) (n := 3) (Nat.le_of_ble_eq_true rfl)
  rw [lg_entry_eq]
  generalize (lg_sl ([.ref (ad 150), .int x1]) ++ List.replicate (3 - (lg_sl ([.ref (ad 150), .int x1])).length) Slot.unset).toArray = ls at hl ⊢
  have hl : lv_has ls 3 [(0, .ref (ad 150)), (1, .int x1)] := hl
  refine lv_aload_n hx hb dL_keep_0 rfl (lv_at hl 0 rfl) ?_
  refine lv_iload_n hx hb dL_keep_1 rfl (lv_at hl 1 rfl) ?_
  refine vx_calli (vx_runV (As := [.int x1]) (rest := []) S (c4_keep l hI hl0 s.heap.size x1 hf) (cwV 1 hts qL_75 rfl rfl rfl (by decide +kernel) ⟨Nat.le_of_ble_eq_true rfl, Nat.le_of_ble_eq_true rfl⟩) ⟨hc_bl, va_recv hK hP (ci := 4) (q0 := 150) rfl (cw_ate (by omega) rfl), fun U hU hW => ⟨rfl, by rw [hU], zx_at hz hW (fun a _ _ => by rw [hU]) (fun q h => h), by rw [hU]; exact hP, va_K.moved hW.alike hK⟩⟩ rfl rfl hl.1 rfl (lv_room (Nat.le_of_ble_eq_true rfl)) dL_keep_2 ⟨Nat.le_of_ble_eq_true rfl, Nat.le_of_ble_eq_true rfl⟩) (va_S.rf (A := cA ad s.heap.size) (H0 := s.heap)) (fun q _ h => h) (fun q h => h) (fun q _ h => h) (fun E ce q9 u t9 H1 locs1 ht hvm hpx hB hz1 hk1 hS hc1 hc2 hc3 => ?_) (fun r u t9 H1 locs1 ht hvm hw hB hz1 hk1 hS => ?_)
  · obtain ⟨hE, hB⟩ := hB
    have hP1 : va_P D vwCl (cwW Y ad t.2.2) H1 := by rw [← ht]; exact hB.1
    rcases hk with ⟨h0, -⟩ | ⟨h0, rfl⟩
    · exact absurd h0 hpx
    · have hE1 : E = "java/lang/IllegalArgumentException" := by rw [hE, h0]; rfl
      subst hE1
      refine vx_catch hown [] ⟨0, 5, 6, 17⟩ [] (hT.trans rfl) (fun z h => nomatch h) (by decide) (by decide) (hts _ gclL_17) (va_Nw.use rfl hz.2.2.2.1) hc1 hc2 hc3 ?_
      refine lv_astore_n (lv' := [(2, .ref q9), (0, .ref (ad 150)), (1, .int x1)]) hx hb dL_keep_6 rfl hl (by decide) rfl (fun ls hl => ?_)
      refine lv_bipush (v := (-2)) hx hb dL_keep_7 (by decide) ?_
      exact hl_iw hx hb hr hlk hK hP1 hS (Nat.le_of_ble_eq_true rfl) (Nat.le_of_ble_eq_true rfl) dL_keep_9
  · obtain ⟨rfl, h0⟩ := hw
    have hP1 : va_P D vwCl (cwW Y ad t.2.2) H1 := by rw [← ht]; exact hB.1
    have hkc : t0 = (t.2.1, t.2.2) := by
      rcases hk with ⟨_, q⟩ | ⟨q, _⟩
      · exact q
      · exact absurd (q.symm.trans h0) (by decide)
    subst hkc
    exact hl_iw hx hb hr hlk hK hP1 hS (Nat.le_of_ble_eq_true rfl) (Nat.le_of_ble_eq_true rfl) dL_keep_5
def f6_goBack_0 (x1 : Int32) (mu : Nat → Nat → Int32) : Option (Int32 × (Nat → Nat → Int32)) := Option.bind (f4_goBack_0 x1 mu) (fun t => if t.1 = 0 then some (t.2.1, t.2.2) else if t.1 = 2 then some (-2, t.2.2) else if t.1 = 3 then some (-3, t.2.2) else none)
set_option maxRecDepth 100000 in
set_option maxHeartbeats 4000000 in
theorem h6_goBack (l : Launch) {D : va_G} {Y : cYt} {ad : Nat → Nat} {mu : Nat → Nat → Int32} (hI : cInj ad) (hl0 : l.stackTraces = false) (sz : Nat) (x1 : Int32) {t0 : Int32 × (Nat → Nat → Int32)} (hf0 : f6_goBack_0 x1 mu = some t0) : vx_Met l yL_goBack uL_goBack rmL (va_Pc [.ref (ad 150), .int x1] (fun U => U.heap.size = sz ∧ lZ ad sz U ∧ cB D Y ad mu U)) (va_Qi (fun (r9 : Int32) (_ : Unit) => r9 = t0.1) (fun _ t9 => cB D Y ad t0.2 t9) (cA ad sz)) (vx_X (fun (_ : Unit) => False) (fun _ _ _ => True) (cA ad sz)) 3 18 (cA ad sz) := by
  obtain ⟨t, hf, hf1⟩ := bd_o hf0
  have hk : t.1 = 0 ∧ t0 = (t.2.1, t.2.2) ∨ t.1 = 2 ∧ t0 = (-2, t.2.2) ∨ t.1 = 3 ∧ t0 = (-3, t.2.2) := by
    by_cases e0 : t.1 = 0
    · exact Or.inl ⟨e0, (so_i (it_t e0 hf1)).symm⟩
    have hg0 := it_f e0 hf1
    by_cases e1 : t.1 = 2
    · exact Or.inr (Or.inl ⟨e1, (so_i (it_t e1 hg0)).symm⟩)
    have hg1 := it_f e1 hg0
    by_cases e2 : t.1 = 3
    · exact Or.inr (Or.inr (⟨e2, (so_i (it_t e2 hg1)).symm⟩))
    have hg2 := it_f e2 hg1
    cases hg2
  refine vx_ofWH (cc := cL_goBack) (maxL := 3) (ret := some .int) (hh := [(0, 5, 6, 17), (0, 5, 10, 22)]) (by decide) rfl ?_
  intro p e s m args below meth c s₁ B hml hv
  obtain ⟨rfl, hsz, ⟨hz, hn⟩, ⟨hP, hK⟩⟩ := hv
  subst hsz
  have hx := B.exec
  have hb := B.bytes
  have hr := B.returns
  have hlk := B.notSynchronized
  have hown : s.vm.findClass RL = some m.cls := findClass_of_methodNamed B.named
  have hts : ∀ w ∈ gw, w.before ([.ref (ad 150), .int x1] : List Value).toArray s = true := fun w h => atoms_spec (ws := uL_goBack) B.pre w (List.mem_cons_of_mem _ h)
  have hT : c.exceptionTable.toList = tableOf [(0, 5, 6, 17), (0, 5, 10, 22)] := vx_table (x := yL_goBack) B (atoms_spec (ws := uL_goBack) B.pre _ List.mem_cons_self)
  have S : CallFix p m c cL_goBack 3 s ([.ref (ad 150), .int x1] : List Value).toArray gw RL := ⟨hx, hb, hml, hown, hts⟩
  have hl := lv_entry ([.ref (ad 150), .int x1]) (n := 3) (Nat.le_of_ble_eq_true rfl)
  rw [lg_entry_eq]
  generalize (lg_sl ([.ref (ad 150), .int x1]) ++ List.replicate (3 - (lg_sl ([.ref (ad 150), .int x1])).length) Slot.unset).toArray = ls at hl ⊢
  have hl : lv_has ls 3 [(0, .ref (ad 150)), (1, .int x1)] := hl
  refine lv_aload_n hx hb dL_goBack_0 rfl (lv_at hl 0 rfl) ?_
  refine lv_iload_n hx hb dL_goBack_1 rfl (lv_at hl 1 rfl) ?_
  refine vx_calli (vx_runV (As := [.int x1]) (rest := []) S (c4_goBack l hI hl0 s.heap.size x1 hf) (cwV 1 hts qL_78 rfl rfl rfl (by decide +kernel) ⟨Nat.le_of_ble_eq_true rfl, Nat.le_of_ble_eq_true rfl⟩) ⟨hc_bl, va_recv hK hP (ci := 4) (q0 := 150) rfl (cw_ate (by omega) rfl), fun U hU hW => ⟨rfl, by rw [hU], zx_at hz hW (fun a _ _ => by rw [hU]) (fun q h => h), by rw [hU]; exact hP, va_K.moved hW.alike hK⟩⟩ rfl rfl hl.1 rfl (lv_room (Nat.le_of_ble_eq_true rfl)) dL_goBack_2 ⟨Nat.le_of_ble_eq_true rfl, Nat.le_of_ble_eq_true rfl⟩) (va_S.rf (A := cA ad s.heap.size) (H0 := s.heap)) (fun q _ h => h) (fun q h => h) (fun q _ h => h) (fun E ce q9 u t9 H1 locs1 ht hvm hpx hB hz1 hk1 hS hc1 hc2 hc3 => ?_) (fun r u t9 H1 locs1 ht hvm hw hB hz1 hk1 hS => ?_)
  · obtain ⟨hE, hB⟩ := hB
    have hP1 : va_P D vwCl (cwW Y ad t.2.2) H1 := by rw [← ht]; exact hB.1
    rcases hk with ⟨h0, -⟩ | ⟨h0, rfl⟩ | ⟨h0, rfl⟩
    · exact absurd h0 hpx
    · have hE1 : E = "java/lang/IllegalArgumentException" := by rw [hE, h0]; rfl
      subst hE1
      refine vx_catch hown [] ⟨0, 5, 6, 17⟩ [⟨0, 5, 10, 22⟩] (hT.trans rfl) (fun z h => nomatch h) (by decide) (by decide) (hts _ gclL_17) (va_Nw.use rfl hz.2.2.2.1) hc1 hc2 hc3 ?_
      refine lv_astore_n (lv' := [(2, .ref q9), (0, .ref (ad 150)), (1, .int x1)]) hx hb dL_goBack_6 rfl hl (by decide) rfl (fun ls hl => ?_)
      refine lv_bipush (v := (-2)) hx hb dL_goBack_7 (by decide) ?_
      exact hl_iw hx hb hr hlk hK hP1 hS (Nat.le_of_ble_eq_true rfl) (Nat.le_of_ble_eq_true rfl) dL_goBack_9
    · have hE1 : E = "java/lang/IllegalStateException" := by rw [hE, h0]; rfl
      subst hE1
      refine vx_catch hown [⟨0, 5, 6, 17⟩] ⟨0, 5, 10, 22⟩ [] (hT.trans rfl) (fun z h => by obtain rfl := List.mem_singleton.mp h; exact Or.inr ⟨by decide, "java/lang/IllegalArgumentException", hts _ gclL_17, hn.2.2⟩) (by decide) (by decide) (hts _ gclL_22) (va_Nw.use rfl hz.2.2.2.2.1) hc1 hc2 hc3 ?_
      refine lv_astore_n (lv' := [(2, .ref q9), (0, .ref (ad 150)), (1, .int x1)]) hx hb dL_goBack_10 rfl hl (by decide) rfl (fun ls hl => ?_)
      refine lv_bipush (v := (-3)) hx hb dL_goBack_11 (by decide) ?_
      exact hl_iw hx hb hr hlk hK hP1 hS (Nat.le_of_ble_eq_true rfl) (Nat.le_of_ble_eq_true rfl) dL_goBack_13
  · obtain ⟨rfl, h0⟩ := hw
    have hP1 : va_P D vwCl (cwW Y ad t.2.2) H1 := by rw [← ht]; exact hB.1
    have hkc : t0 = (t.2.1, t.2.2) := by
      rcases hk with ⟨_, q⟩ | ⟨q, _⟩ | ⟨q, _⟩
      · exact q
      · exact absurd (q.symm.trans h0) (by decide)
      · exact absurd (q.symm.trans h0) (by decide)
    subst hkc
    exact hl_iw hx hb hr hlk hK hP1 hS (Nat.le_of_ble_eq_true rfl) (Nat.le_of_ble_eq_true rfl) dL_goBack_5
def f6_ifAlone_0 (x1 x2 x3 : Int32) (mu : Nat → Nat → Int32) : Option (Int32 × (Nat → Nat → Int32)) := Option.bind (f4_ifAlone_0 x1 x2 x3 mu) (fun t => if t.1 = 0 then some (t.2.1, t.2.2) else if t.1 = 2 then some (-2, t.2.2) else none)
set_option maxRecDepth 100000 in
set_option maxHeartbeats 4000000 in
theorem h6_ifAlone (l : Launch) {D : va_G} {Y : cYt} {ad : Nat → Nat} {mu : Nat → Nat → Int32} (hI : cInj ad) (hl0 : l.stackTraces = false) (sz : Nat) (x1 : Int32) (x2 : Int32) (x3 : Int32) {t0 : Int32 × (Nat → Nat → Int32)} (hf0 : f6_ifAlone_0 x1 x2 x3 mu = some t0) : vx_Met l yL_ifAlone uL_ifAlone rmL (va_Pc [.ref (ad 150), .int x1, .int x2, .int x3] (fun U => U.heap.size = sz ∧ lZ ad sz U ∧ cB D Y ad mu U)) (va_Qi (fun (r9 : Int32) (_ : Unit) => r9 = t0.1) (fun _ t9 => cB D Y ad t0.2 t9) (cA ad sz)) (vx_X (fun (_ : Unit) => False) (fun _ _ _ => True) (cA ad sz)) 3 18 (cA ad sz) := by
  obtain ⟨t, hf, hf1⟩ := bd_o hf0
  have hk : t.1 = 0 ∧ t0 = (t.2.1, t.2.2) ∨ t.1 = 2 ∧ t0 = (-2, t.2.2) := by
    by_cases e0 : t.1 = 0
    · exact Or.inl ⟨e0, (so_i (it_t e0 hf1)).symm⟩
    have hg0 := it_f e0 hf1
    by_cases e1 : t.1 = 2
    · exact Or.inr (⟨e1, (so_i (it_t e1 hg0)).symm⟩)
    have hg1 := it_f e1 hg0
    cases hg1
  refine vx_ofWH (cc := cL_ifAlone) (maxL := 5) (ret := some .int) (hh := [(0, 7, 8, 17)]) (by decide) rfl ?_
  intro p e s m args below meth c s₁ B hml hv
  obtain ⟨rfl, hsz, ⟨hz, hn⟩, ⟨hP, hK⟩⟩ := hv
  subst hsz
  have hx := B.exec
  have hb := B.bytes
  have hr := B.returns
  have hlk := B.notSynchronized
  have hown : s.vm.findClass RL = some m.cls := findClass_of_methodNamed B.named
  have hts : ∀ w ∈ gw, w.before ([.ref (ad 150), .int x1, .int x2, .int x3] : List Value).toArray s = true := fun w h => atoms_spec (ws := uL_ifAlone) B.pre w (List.mem_cons_of_mem _ h)
  have hT : c.exceptionTable.toList = tableOf [(0, 7, 8, 17)] := vx_table (x := yL_ifAlone) B (atoms_spec (ws := uL_ifAlone) B.pre _ List.mem_cons_self)
  have S : CallFix p m c cL_ifAlone 5 s ([.ref (ad 150), .int x1, .int x2, .int x3] : List Value).toArray gw RL := ⟨hx, hb, hml, hown, hts⟩
  have hl := lv_entry ([.ref (ad 150), .int x1, .int x2, .int x3]) (n := 5) (Nat.le_of_ble_eq_true rfl)
  rw [lg_entry_eq]
  generalize (lg_sl ([.ref (ad 150), .int x1, .int x2, .int x3]) ++ List.replicate (5 - (lg_sl ([.ref (ad 150), .int x1, .int x2, .int x3])).length) Slot.unset).toArray = ls at hl ⊢
  have hl : lv_has ls 5 [(0, .ref (ad 150)), (1, .int x1), (2, .int x2), (3, .int x3)] := hl
  refine lv_aload_n hx hb dL_ifAlone_0 rfl (lv_at hl 0 rfl) ?_
  refine lv_iload_n hx hb dL_ifAlone_1 rfl (lv_at hl 1 rfl) ?_
  refine lv_iload_n hx hb dL_ifAlone_2 rfl (lv_at hl 2 rfl) ?_
  refine lv_iload_n hx hb dL_ifAlone_3 rfl (lv_at hl 3 rfl) ?_
  refine vx_calli (vx_runV (As := [.int x1, .int x2, .int x3]) (rest := []) S (c4_ifAlone l hI hl0 s.heap.size x1 x2 x3 hf) (cwV 3 hts qL_81 rfl rfl rfl (by decide +kernel) ⟨Nat.le_of_ble_eq_true rfl, Nat.le_of_ble_eq_true rfl⟩) ⟨hc_bl, va_recv hK hP (ci := 4) (q0 := 150) rfl (cw_ate (by omega) rfl), fun U hU hW => ⟨rfl, by rw [hU], zx_at hz hW (fun a _ _ => by rw [hU]) (fun q h => h), by rw [hU]; exact hP, va_K.moved hW.alike hK⟩⟩ rfl rfl hl.1 rfl (lv_room (Nat.le_of_ble_eq_true rfl)) dL_ifAlone_4 ⟨Nat.le_of_ble_eq_true rfl, Nat.le_of_ble_eq_true rfl⟩) (va_S.rf (A := cA ad s.heap.size) (H0 := s.heap)) (fun q _ h => h) (fun q h => h) (fun q _ h => h) (fun E ce q9 u t9 H1 locs1 ht hvm hpx hB hz1 hk1 hS hc1 hc2 hc3 => ?_) (fun r u t9 H1 locs1 ht hvm hw hB hz1 hk1 hS => ?_)
  · obtain ⟨hE, hB⟩ := hB
    have hP1 : va_P D vwCl (cwW Y ad t.2.2) H1 := by rw [← ht]; exact hB.1
    rcases hk with ⟨h0, -⟩ | ⟨h0, rfl⟩
    · exact absurd h0 hpx
    · have hE1 : E = "java/lang/IllegalArgumentException" := by rw [hE, h0]; rfl
      subst hE1
      refine vx_catch hown [] ⟨0, 7, 8, 17⟩ [] (hT.trans rfl) (fun z h => nomatch h) (by decide) (by decide) (hts _ gclL_17) (va_Nw.use rfl hz.2.2.2.1) hc1 hc2 hc3 ?_
      refine lv_astore (lv' := [(4, .ref q9), (0, .ref (ad 150)), (1, .int x1), (2, .int x2), (3, .int x3)]) hx hb dL_ifAlone_8 hl (by decide) rfl (fun ls hl => ?_)
      refine lv_bipush (v := (-2)) hx hb dL_ifAlone_10 (by decide) ?_
      exact hl_iw hx hb hr hlk hK hP1 hS (Nat.le_of_ble_eq_true rfl) (Nat.le_of_ble_eq_true rfl) dL_ifAlone_12
  · obtain ⟨rfl, h0⟩ := hw
    have hP1 : va_P D vwCl (cwW Y ad t.2.2) H1 := by rw [← ht]; exact hB.1
    have hkc : t0 = (t.2.1, t.2.2) := by
      rcases hk with ⟨_, q⟩ | ⟨q, _⟩
      · exact q
      · exact absurd (q.symm.trans h0) (by decide)
    subst hkc
    exact hl_iw hx hb hr hlk hK hP1 hS (Nat.le_of_ble_eq_true rfl) (Nat.le_of_ble_eq_true rfl) dL_ifAlone_7
def f6_leastBrake_0 (x1 : Int32) (mu : Nat → Nat → Int32) : Option (Int32 × (Nat → Nat → Int32)) := Option.bind (f4_leastBrake_0 x1 mu) (fun t => if t.1 = 0 then some (t.2.1, t.2.2) else if t.1 = 2 then some (-2, t.2.2) else none)
set_option maxRecDepth 100000 in
set_option maxHeartbeats 4000000 in
theorem h6_leastBrake (l : Launch) {D : va_G} {Y : cYt} {ad : Nat → Nat} {mu : Nat → Nat → Int32} (hI : cInj ad) (hl0 : l.stackTraces = false) (sz : Nat) (x1 : Int32) {t0 : Int32 × (Nat → Nat → Int32)} (hf0 : f6_leastBrake_0 x1 mu = some t0) : vx_Met l yL_leastBrake uL_leastBrake rmL (va_Pc [.ref (ad 150), .int x1] (fun U => U.heap.size = sz ∧ lZ ad sz U ∧ cB D Y ad mu U)) (va_Qi (fun (r9 : Int32) (_ : Unit) => r9 = t0.1) (fun _ t9 => cB D Y ad t0.2 t9) (cA ad sz)) (vx_X (fun (_ : Unit) => False) (fun _ _ _ => True) (cA ad sz)) 3 18 (cA ad sz) := by
  obtain ⟨t, hf, hf1⟩ := bd_o hf0
  have hk : t.1 = 0 ∧ t0 = (t.2.1, t.2.2) ∨ t.1 = 2 ∧ t0 = (-2, t.2.2) := by
    by_cases e0 : t.1 = 0
    · exact Or.inl ⟨e0, (so_i (it_t e0 hf1)).symm⟩
    have hg0 := it_f e0 hf1
    by_cases e1 : t.1 = 2
    · exact Or.inr (⟨e1, (so_i (it_t e1 hg0)).symm⟩)
    have hg1 := it_f e1 hg0
    cases hg1
  refine vx_ofWH (cc := cL_leastBrake) (maxL := 3) (ret := some .int) (hh := [(0, 5, 6, 17)]) (by decide) rfl ?_
  intro p e s m args below meth c s₁ B hml hv
  obtain ⟨rfl, hsz, ⟨hz, hn⟩, ⟨hP, hK⟩⟩ := hv
  subst hsz
  have hx := B.exec
  have hb := B.bytes
  have hr := B.returns
  have hlk := B.notSynchronized
  have hown : s.vm.findClass RL = some m.cls := findClass_of_methodNamed B.named
  have hts : ∀ w ∈ gw, w.before ([.ref (ad 150), .int x1] : List Value).toArray s = true := fun w h => atoms_spec (ws := uL_leastBrake) B.pre w (List.mem_cons_of_mem _ h)
  have hT : c.exceptionTable.toList = tableOf [(0, 5, 6, 17)] := vx_table (x := yL_leastBrake) B (atoms_spec (ws := uL_leastBrake) B.pre _ List.mem_cons_self)
  have S : CallFix p m c cL_leastBrake 3 s ([.ref (ad 150), .int x1] : List Value).toArray gw RL := ⟨hx, hb, hml, hown, hts⟩
  have hl := lv_entry ([.ref (ad 150), .int x1]) (n := 3) (Nat.le_of_ble_eq_true rfl)
  rw [lg_entry_eq]
  generalize (lg_sl ([.ref (ad 150), .int x1]) ++ List.replicate (3 - (lg_sl ([.ref (ad 150), .int x1])).length) Slot.unset).toArray = ls at hl ⊢
  have hl : lv_has ls 3 [(0, .ref (ad 150)), (1, .int x1)] := hl
  refine lv_aload_n hx hb dL_leastBrake_0 rfl (lv_at hl 0 rfl) ?_
  refine lv_iload_n hx hb dL_leastBrake_1 rfl (lv_at hl 1 rfl) ?_
  refine vx_calli (vx_runV (As := [.int x1]) (rest := []) S (c4_leastBrake l hI hl0 s.heap.size x1 hf) (cwV 1 hts qL_85 rfl rfl rfl (by decide +kernel) ⟨Nat.le_of_ble_eq_true rfl, Nat.le_of_ble_eq_true rfl⟩) ⟨hc_bl, va_recv hK hP (ci := 4) (q0 := 150) rfl (cw_ate (by omega) rfl), fun U hU hW => ⟨rfl, by rw [hU], zx_at hz hW (fun a _ _ => by rw [hU]) (fun q h => h), by rw [hU]; exact hP, va_K.moved hW.alike hK⟩⟩ rfl rfl hl.1 rfl (lv_room (Nat.le_of_ble_eq_true rfl)) dL_leastBrake_2 ⟨Nat.le_of_ble_eq_true rfl, Nat.le_of_ble_eq_true rfl⟩) (va_S.rf (A := cA ad s.heap.size) (H0 := s.heap)) (fun q _ h => h) (fun q h => h) (fun q _ h => h) (fun E ce q9 u t9 H1 locs1 ht hvm hpx hB hz1 hk1 hS hc1 hc2 hc3 => ?_) (fun r u t9 H1 locs1 ht hvm hw hB hz1 hk1 hS => ?_)
  · obtain ⟨hE, hB⟩ := hB
    have hP1 : va_P D vwCl (cwW Y ad t.2.2) H1 := by rw [← ht]; exact hB.1
    rcases hk with ⟨h0, -⟩ | ⟨h0, rfl⟩
    · exact absurd h0 hpx
    · have hE1 : E = "java/lang/IllegalArgumentException" := by rw [hE, h0]; rfl
      subst hE1
      refine vx_catch hown [] ⟨0, 5, 6, 17⟩ [] (hT.trans rfl) (fun z h => nomatch h) (by decide) (by decide) (hts _ gclL_17) (va_Nw.use rfl hz.2.2.2.1) hc1 hc2 hc3 ?_
      refine lv_astore_n (lv' := [(2, .ref q9), (0, .ref (ad 150)), (1, .int x1)]) hx hb dL_leastBrake_6 rfl hl (by decide) rfl (fun ls hl => ?_)
      refine lv_bipush (v := (-2)) hx hb dL_leastBrake_7 (by decide) ?_
      exact hl_iw hx hb hr hlk hK hP1 hS (Nat.le_of_ble_eq_true rfl) (Nat.le_of_ble_eq_true rfl) dL_leastBrake_9
  · obtain ⟨rfl, h0⟩ := hw
    have hP1 : va_P D vwCl (cwW Y ad t.2.2) H1 := by rw [← ht]; exact hB.1
    have hkc : t0 = (t.2.1, t.2.2) := by
      rcases hk with ⟨_, q⟩ | ⟨q, _⟩
      · exact q
      · exact absurd (q.symm.trans h0) (by decide)
    subst hkc
    exact hl_iw hx hb hr hlk hK hP1 hS (Nat.le_of_ble_eq_true rfl) (Nat.le_of_ble_eq_true rfl) dL_leastBrake_5
def f6_ifRun_0 (x1 x2 : Int32) (mu : Nat → Nat → Int32) : Option (Int32 × (Nat → Nat → Int32)) := Option.bind (f4_ifRun_0 x1 x2 mu) (fun t => if t.1 = 0 then some (t.2.1, t.2.2) else if t.1 = 2 then some (-2, t.2.2) else none)
set_option maxRecDepth 100000 in
set_option maxHeartbeats 4000000 in
theorem h6_ifRun (l : Launch) {D : va_G} {Y : cYt} {ad : Nat → Nat} {mu : Nat → Nat → Int32} (hI : cInj ad) (hl0 : l.stackTraces = false) (sz : Nat) (x1 : Int32) (x2 : Int32) {t0 : Int32 × (Nat → Nat → Int32)} (hf0 : f6_ifRun_0 x1 x2 mu = some t0) : vx_Met l yL_ifRun uL_ifRun rmL (va_Pc [.ref (ad 150), .int x1, .int x2] (fun U => U.heap.size = sz ∧ lZ ad sz U ∧ cB D Y ad mu U)) (va_Qi (fun (r9 : Int32) (_ : Unit) => r9 = t0.1) (fun _ t9 => cB D Y ad t0.2 t9) (cA ad sz)) (vx_X (fun (_ : Unit) => False) (fun _ _ _ => True) (cA ad sz)) 3 18 (cA ad sz) := by
  obtain ⟨t, hf, hf1⟩ := bd_o hf0
  have hk : t.1 = 0 ∧ t0 = (t.2.1, t.2.2) ∨ t.1 = 2 ∧ t0 = (-2, t.2.2) := by
    by_cases e0 : t.1 = 0
    · exact Or.inl ⟨e0, (so_i (it_t e0 hf1)).symm⟩
    have hg0 := it_f e0 hf1
    by_cases e1 : t.1 = 2
    · exact Or.inr (⟨e1, (so_i (it_t e1 hg0)).symm⟩)
    have hg1 := it_f e1 hg0
    cases hg1
  refine vx_ofWH (cc := cL_ifRun) (maxL := 4) (ret := some .int) (hh := [(0, 6, 7, 17)]) (by decide) rfl ?_
  intro p e s m args below meth c s₁ B hml hv
  obtain ⟨rfl, hsz, ⟨hz, hn⟩, ⟨hP, hK⟩⟩ := hv
  subst hsz
  have hx := B.exec
  have hb := B.bytes
  have hr := B.returns
  have hlk := B.notSynchronized
  have hown : s.vm.findClass RL = some m.cls := findClass_of_methodNamed B.named
  have hts : ∀ w ∈ gw, w.before ([.ref (ad 150), .int x1, .int x2] : List Value).toArray s = true := fun w h => atoms_spec (ws := uL_ifRun) B.pre w (List.mem_cons_of_mem _ h)
  have hT : c.exceptionTable.toList = tableOf [(0, 6, 7, 17)] := vx_table (x := yL_ifRun) B (atoms_spec (ws := uL_ifRun) B.pre _ List.mem_cons_self)
  have S : CallFix p m c cL_ifRun 4 s ([.ref (ad 150), .int x1, .int x2] : List Value).toArray gw RL := ⟨hx, hb, hml, hown, hts⟩
  have hl := lv_entry ([.ref (ad 150), .int x1, .int x2]) (n := 4) (Nat.le_of_ble_eq_true rfl)
  rw [lg_entry_eq]
  generalize (lg_sl ([.ref (ad 150), .int x1, .int x2]) ++ List.replicate (4 - (lg_sl ([.ref (ad 150), .int x1, .int x2])).length) Slot.unset).toArray = ls at hl ⊢
  have hl : lv_has ls 4 [(0, .ref (ad 150)), (1, .int x1), (2, .int x2)] := hl
  refine lv_aload_n hx hb dL_ifRun_0 rfl (lv_at hl 0 rfl) ?_
  refine lv_iload_n hx hb dL_ifRun_1 rfl (lv_at hl 1 rfl) ?_
  refine lv_iload_n hx hb dL_ifRun_2 rfl (lv_at hl 2 rfl) ?_
  refine vx_calli (vx_runV (As := [.int x1, .int x2]) (rest := []) S (c4_ifRun l hI hl0 s.heap.size x1 x2 hf) (cwV 2 hts qL_88 rfl rfl rfl (by decide +kernel) ⟨Nat.le_of_ble_eq_true rfl, Nat.le_of_ble_eq_true rfl⟩) ⟨hc_bl, va_recv hK hP (ci := 4) (q0 := 150) rfl (cw_ate (by omega) rfl), fun U hU hW => ⟨rfl, by rw [hU], zx_at hz hW (fun a _ _ => by rw [hU]) (fun q h => h), by rw [hU]; exact hP, va_K.moved hW.alike hK⟩⟩ rfl rfl hl.1 rfl (lv_room (Nat.le_of_ble_eq_true rfl)) dL_ifRun_3 ⟨Nat.le_of_ble_eq_true rfl, Nat.le_of_ble_eq_true rfl⟩) (va_S.rf (A := cA ad s.heap.size) (H0 := s.heap)) (fun q _ h => h) (fun q h => h) (fun q _ h => h) (fun E ce q9 u t9 H1 locs1 ht hvm hpx hB hz1 hk1 hS hc1 hc2 hc3 => ?_) (fun r u t9 H1 locs1 ht hvm hw hB hz1 hk1 hS => ?_)
  · obtain ⟨hE, hB⟩ := hB
    have hP1 : va_P D vwCl (cwW Y ad t.2.2) H1 := by rw [← ht]; exact hB.1
    rcases hk with ⟨h0, -⟩ | ⟨h0, rfl⟩
    · exact absurd h0 hpx
    · have hE1 : E = "java/lang/IllegalArgumentException" := by rw [hE, h0]; rfl
      subst hE1
      refine vx_catch hown [] ⟨0, 6, 7, 17⟩ [] (hT.trans rfl) (fun z h => nomatch h) (by decide) (by decide) (hts _ gclL_17) (va_Nw.use rfl hz.2.2.2.1) hc1 hc2 hc3 ?_
      refine lv_astore_n (lv' := [(3, .ref q9), (0, .ref (ad 150)), (1, .int x1), (2, .int x2)]) hx hb dL_ifRun_7 rfl hl (by decide) rfl (fun ls hl => ?_)
      refine lv_bipush (v := (-2)) hx hb dL_ifRun_8 (by decide) ?_
      exact hl_iw hx hb hr hlk hK hP1 hS (Nat.le_of_ble_eq_true rfl) (Nat.le_of_ble_eq_true rfl) dL_ifRun_10
  · obtain ⟨rfl, h0⟩ := hw
    have hP1 : va_P D vwCl (cwW Y ad t.2.2) H1 := by rw [← ht]; exact hB.1
    have hkc : t0 = (t.2.1, t.2.2) := by
      rcases hk with ⟨_, q⟩ | ⟨q, _⟩
      · exact q
      · exact absurd (q.symm.trans h0) (by decide)
    subst hkc
    exact hl_iw hx hb hr hlk hK hP1 hS (Nat.le_of_ble_eq_true rfl) (Nat.le_of_ble_eq_true rfl) dL_ifRun_6
