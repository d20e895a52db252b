set_option maxRecDepth 100000 in
set_option maxHeartbeats 4000000 in
theorem h6_grade (l : Launch) {D : va_G} {Y : cYt} {ad : Nat → Nat} {mu : Nat → Nat → Int32} {cL : ClassId} {o : Nat} {f : Nat → Int64} (hI : cInj ad) (hl0 : l.stackTraces = false) (sz : Nat) (ho : hO ad o sz) (x1 : Int32) (x2 : Int32) {t : Int32 × Int32 × (Nat → Nat → Int32)} (hf : f4_grade_0 x1 x2 mu = some t) {kc : Int32} (hk : t.1 = 0 ∧ kc = 0 ∨ t.1 = 1 ∧ kc = 1 ∨ t.1 = 2 ∧ kc = 2) : vx_Met l yL_grade uL_grade rmL (va_Pc [.ref (ad 150), .int x1, .int x2, .ref o] (fun U => U.heap.size = sz ∧ hZ ad o sz U ∧ hB D Y ad cL o mu f U)) (va_Qi (fun (r9 : Int32) (g : Nat → Int64) => r9 = kc ∧ (kc = 0 → g 0 = (t.2.1).toInt64)) (fun g t9 => hB D Y ad cL o t.2.2 g t9) (hA ad o sz)) (vx_X (fun (_ : Unit) => False) (fun _ _ _ => True) (hA ad o sz)) 3 18 (hA ad o sz) := by
  refine vx_ofWH (cc := cL_grade) (maxL := 5) (ret := some .int) (hh := [(0, 10, 13, 13), (0, 10, 17, 15)]) (by decide) rfl ?_
  intro p e s m args below meth c s₁ B hml hv
  obtain ⟨rfl, hsz, ⟨hz, hn⟩, ⟨hP, hK⟩, hPo, hKo⟩ := hv
  subst hsz
  have hx := B.exec
  have hb := B.bytes
  have hr := B.returns
  have hlk := B.notSynchronized
  have hown : s.vm.findClass RL = some m.cls := findClass_of_methodNamed B.named
  have hts : ∀ w ∈ gw, w.before ([.ref (ad 150), .int x1, .int x2, .ref o] : List Value).toArray s = true := fun w h => atoms_spec (ws := uL_grade) B.pre w (List.mem_cons_of_mem _ h)
  have hT : c.exceptionTable.toList = tableOf [(0, 10, 13, 13), (0, 10, 17, 15)] := vx_table (x := yL_grade) B (atoms_spec (ws := uL_grade) B.pre _ List.mem_cons_self)
  have S : CallFix p m c cL_grade 5 s ([.ref (ad 150), .int x1, .int x2, .ref o] : List Value).toArray gw RL := ⟨hx, hb, hml, hown, hts⟩
  have hl := lv_entry ([.ref (ad 150), .int x1, .int x2, .ref o]) (n := 5) (Nat.le_of_ble_eq_true rfl)
  rw [lg_entry_eq]
  generalize (lg_sl ([.ref (ad 150), .int x1, .int x2, .ref o]) ++ List.replicate (5 - (lg_sl ([.ref (ad 150), .int x1, .int x2, .ref o])).length) Slot.unset).toArray = ls at hl ⊢
  have hl : lv_has ls 5 [(0, .ref (ad 150)), (1, .int x1), (2, .int x2), (3, .ref o)] := hl
  refine lv_aload_n hx hb dL_grade_0 rfl (lv_at hl 3 rfl) ?_
  refine lv_iconst (v := 0) hx hb dL_grade_1 (by decide) ?_
  refine lv_aload_n hx hb dL_grade_2 rfl (lv_at hl 0 rfl) ?_
  refine lv_iload_n hx hb dL_grade_3 rfl (lv_at hl 1 rfl) ?_
  refine lv_iload_n hx hb dL_grade_4 rfl (lv_at hl 2 rfl) ?_
  refine vx_calli (vx_runV (As := [.int x1, .int x2]) (rest := [.int 0, .ref o]) S (c4_grade l hI hl0 s.heap.size x1 x2 hf) (cwV 2 hts qL_7 rfl rfl rfl (by decide +kernel) ⟨Nat.le_of_ble_eq_true rfl, Nat.le_of_ble_eq_true rfl⟩) ⟨hc_bl, va_recv hK hP (ci := 4) (q0 := 150) rfl (cw_ate (by omega) rfl), fun U hU hW => ⟨rfl, by rw [hU], zx_at hz hW (fun a _ _ => by rw [hU]) (fun q h => Or.inl h), by rw [hU]; exact hP, va_K.moved hW.alike hK⟩⟩ rfl rfl hl.1 rfl (lv_room (Nat.le_of_ble_eq_true rfl)) dL_grade_5 ⟨Nat.le_of_ble_eq_true rfl, Nat.le_of_ble_eq_true rfl⟩) (va_S.rf (A := hA ad o s.heap.size) (H0 := s.heap)) (fun q _ h => Or.inl h) (fun q h => Or.inl h) (fun q _ h => Or.inl h) (fun E ce q9 u t9 H1 locs1 ht hvm hpx hB hz1 hk1 hS hc1 hc2 hc3 => ?_) (fun r u t9 H1 locs1 ht hvm hw hB hz1 hk1 hS => ?_)
  · obtain ⟨hE, hB⟩ := hB
    have hP1 : va_P D vwCl (cwW Y ad t.2.2) H1 := by rw [← ht]; exact hB.1
    have hPo1 : va_P D vwCl (oW cL o f) H1 := va_P.kept hPo (fun k q hq => hk1 q.1 (va_at.lt (hPo k q hq)) (by rw [oW_o hq]; exact hO_n ho))
    rcases hk with ⟨h0, -⟩ | ⟨h0, rfl⟩ | ⟨h0, rfl⟩
    · exact absurd h0 hpx
    · have hE1 : E = "java/lang/IndexOutOfBoundsException" := by rw [hE, h0]; rfl
      subst hE1
      refine vx_catch hown [] ⟨0, 10, 13, 13⟩ [⟨0, 10, 17, 15⟩] (hT.trans rfl) (fun z h => nomatch h) (by decide) (by decide) (hts _ gclL_13) (va_Nw.use rfl hz.2.2.1) hc1 hc2 hc3 ?_
      refine lv_astore (lv' := [(4, .ref q9), (0, .ref (ad 150)), (1, .int x1), (2, .int x2), (3, .ref o)]) hx hb dL_grade_13 hl (by decide) rfl (fun ls hl => ?_)
      refine lv_iconst (v := 1) hx hb dL_grade_15 (by decide) ?_
      exact hl_iw hx hb hr hlk hK hKo hP1 hPo1 hS (Nat.le_of_ble_eq_true rfl) (Nat.le_of_ble_eq_true rfl) (fun q => absurd q (by decide)) dL_grade_16
    · have hE1 : E = "java/lang/IllegalArgumentException" := by rw [hE, h0]; rfl
      subst hE1
      refine vx_catch hown [⟨0, 10, 13, 13⟩] ⟨0, 10, 17, 15⟩ [] (hT.trans rfl) (fun z h => by obtain rfl := List.mem_singleton.mp h; exact Or.inr ⟨by decide, "java/lang/IndexOutOfBoundsException", hts _ gclL_13, hn.1⟩) (by decide) (by decide) (hts _ gclL_15) (va_Nw.use rfl hz.2.2.2.1) hc1 hc2 hc3 ?_
      refine lv_astore (lv' := [(4, .ref q9), (0, .ref (ad 150)), (1, .int x1), (2, .int x2), (3, .ref o)]) hx hb dL_grade_17 hl (by decide) rfl (fun ls hl => ?_)
      refine lv_iconst (v := 2) hx hb dL_grade_19 (by decide) ?_
      exact hl_iw hx hb hr hlk hK hKo hP1 hPo1 hS (Nat.le_of_ble_eq_true rfl) (Nat.le_of_ble_eq_true rfl) (fun q => absurd q (by decide)) dL_grade_20
  · obtain ⟨rfl, h0⟩ := hw
    have hP1 : va_P D vwCl (cwW Y ad t.2.2) H1 := by rw [← ht]; exact hB.1
    have hPo1 : va_P D vwCl (oW cL o f) H1 := va_P.kept hPo (fun k q hq => hk1 q.1 (va_at.lt (hPo k q hq)) (by rw [oW_o hq]; exact hO_n ho))
    have hkc : kc = 0 := by
      rcases hk with ⟨_, q⟩ | ⟨q, _⟩ | ⟨q, _⟩
      · exact q
      · exact absurd (q.symm.trans h0) (by decide)
      · exact absurd (q.symm.trans h0) (by decide)
    subst hkc
    refine lv_i2l hx hb dL_grade_8 rfl ?_
    refine va_last (A := hA ad o s.heap.size) hx hb hKo (vP_c (hPo1 0 _ rfl) hP1) (vD_c (Or.inr rfl) (fun k q hq => by obtain ⟨i, hi, e⟩ := cW_q hq; rw [e]; exact ho.2 i hi) (⟨(cD (Y := Y) (μ := t.2.2) (sz := s.heap.size) hI).1 , fun k q hq => Or.inl ((cD (Y := Y) (μ := t.2.2) (sz := s.heap.size) hI).2 k q hq)⟩)) hS 0 0 rfl rfl (vp_in_nI (n := 0) (by omega) (by omega)) dL_grade_9 (fun H2 locs2 hP2 _ hS2 => ?_)
    refine lv_goto (tgt := 21) hx hb dL_grade_10 (by decide) ?_
    refine lv_iconst (v := 0) hx hb dL_grade_21 (by decide) ?_
    exact hl_iw (g := vp_updL f (Int32.toNatClampNeg 0) ((t.2.1).toInt64)) hx hb hr hlk hK hKo (fun k q hq => hP2 (k + 1) q hq) (fun k q hq => by cases k with | zero => cases hq; exact hP2 0 _ rfl | succ k => cases hq) hS2 (Nat.le_of_ble_eq_true rfl) (Nat.le_of_ble_eq_true rfl) (fun _ => if_pos rfl) dL_grade_22
set_option maxRecDepth 100000 in
set_option maxHeartbeats 4000000 in
theorem h6_spring (l : Launch) {D : va_G} {Y : cYt} {ad : Nat → Nat} {mu : Nat → Nat → Int32} {cL : ClassId} {o : Nat} {f : Nat → Int64} (hI : cInj ad) (hl0 : l.stackTraces = false) (sz : Nat) (ho : hO ad o sz) (x1 : Int32) (x2 : Int32) {t : Int32 × Int32 × (Nat → Nat → Int32)} (hf : f4_spring_0 x1 x2 mu = some t) {kc : Int32} (hk : t.1 = 0 ∧ kc = 0 ∨ t.1 = 1 ∧ kc = 1 ∨ t.1 = 2 ∧ kc = 2 ∨ t.1 = 3 ∧ kc = 3) : vx_Met l yL_spring uL_spring rmL (va_Pc [.ref (ad 150), .int x1, .int x2, .ref o] (fun U => U.heap.size = sz ∧ hZ ad o sz U ∧ hB D Y ad cL o mu f U)) (va_Qi (fun (r9 : Int32) (g : Nat → Int64) => r9 = kc ∧ (kc = 0 → g 0 = (t.2.1).toInt64)) (fun g t9 => hB D Y ad cL o t.2.2 g t9) (hA ad o sz)) (vx_X (fun (_ : Unit) => False) (fun _ _ _ => True) (hA ad o sz)) 3 18 (hA ad o sz) := by
  refine vx_ofWH (cc := cL_spring) (maxL := 5) (ret := some .int) (hh := [(0, 10, 13, 13), (0, 10, 17, 15), (0, 10, 21, 20)]) (by decide) rfl ?_
  intro p e s m args below meth c s₁ B hml hv
  obtain ⟨rfl, hsz, ⟨hz, hn⟩, ⟨hP, hK⟩, hPo, hKo⟩ := hv
  subst hsz
  have hx := B.exec
  have hb := B.bytes
  have hr := B.returns
  have hlk := B.notSynchronized
  have hown : s.vm.findClass RL = some m.cls := findClass_of_methodNamed B.named
  have hts : ∀ w ∈ gw, w.before ([.ref (ad 150), .int x1, .int x2, .ref o] : List Value).toArray s = true := fun w h => atoms_spec (ws := uL_spring) B.pre w (List.mem_cons_of_mem _ h)
  have hT : c.exceptionTable.toList = tableOf [(0, 10, 13, 13), (0, 10, 17, 15), (0, 10, 21, 20)] := vx_table (x := yL_spring) B (atoms_spec (ws := uL_spring) B.pre _ List.mem_cons_self)
  have S : CallFix p m c cL_spring 5 s ([.ref (ad 150), .int x1, .int x2, .ref o] : List Value).toArray gw RL := ⟨hx, hb, hml, hown, hts⟩
  have hl := lv_entry ([.ref (ad 150), .int x1, .int x2, .ref o]) (n := 5) (Nat.le_of_ble_eq_true rfl)
  rw [lg_entry_eq]
  generalize (lg_sl ([.ref (ad 150), .int x1, .int x2, .ref o]) ++ List.replicate (5 - (lg_sl ([.ref (ad 150), .int x1, .int x2, .ref o])).length) Slot.unset).toArray = ls at hl ⊢
  have hl : lv_has ls 5 [(0, .ref (ad 150)), (1, .int x1), (2, .int x2), (3, .ref o)] := hl
  refine lv_aload_n hx hb dL_spring_0 rfl (lv_at hl 3 rfl) ?_
  refine lv_iconst (v := 0) hx hb dL_spring_1 (by decide) ?_
  refine lv_aload_n hx hb dL_spring_2 rfl (lv_at hl 0 rfl) ?_
  refine lv_iload_n hx hb dL_spring_3 rfl (lv_at hl 1 rfl) ?_
  refine lv_iload_n hx hb dL_spring_4 rfl (lv_at hl 2 rfl) ?_
  refine vx_calli (vx_runV (As := [.int x1, .int x2]) (rest := [.int 0, .ref o]) S (c4_spring l hI hl0 s.heap.size x1 x2 hf) (cwV 2 hts qL_17 rfl rfl rfl (by decide +kernel) ⟨Nat.le_of_ble_eq_true rfl, Nat.le_of_ble_eq_true rfl⟩) ⟨hc_bl, va_recv hK hP (ci := 4) (q0 := 150) rfl (cw_ate (by omega) rfl), fun U hU hW => ⟨rfl, by rw [hU], zx_at hz hW (fun a _ _ => by rw [hU]) (fun q h => Or.inl h), by rw [hU]; exact hP, va_K.moved hW.alike hK⟩⟩ rfl rfl hl.1 rfl (lv_room (Nat.le_of_ble_eq_true rfl)) dL_spring_5 ⟨Nat.le_of_ble_eq_true rfl, Nat.le_of_ble_eq_true rfl⟩) (va_S.rf (A := hA ad o s.heap.size) (H0 := s.heap)) (fun q _ h => Or.inl h) (fun q h => Or.inl h) (fun q _ h => Or.inl h) (fun E ce q9 u t9 H1 locs1 ht hvm hpx hB hz1 hk1 hS hc1 hc2 hc3 => ?_) (fun r u t9 H1 locs1 ht hvm hw hB hz1 hk1 hS => ?_)
  · obtain ⟨hE, hB⟩ := hB
    have hP1 : va_P D vwCl (cwW Y ad t.2.2) H1 := by rw [← ht]; exact hB.1
    have hPo1 : va_P D vwCl (oW cL o f) H1 := va_P.kept hPo (fun k q hq => hk1 q.1 (va_at.lt (hPo k q hq)) (by rw [oW_o hq]; exact hO_n ho))
    rcases hk with ⟨h0, -⟩ | ⟨h0, rfl⟩ | ⟨h0, rfl⟩ | ⟨h0, rfl⟩
    · exact absurd h0 hpx
    · have hE1 : E = "java/lang/IndexOutOfBoundsException" := by rw [hE, h0]; rfl
      subst hE1
      refine vx_catch hown [] ⟨0, 10, 13, 13⟩ [⟨0, 10, 17, 15⟩, ⟨0, 10, 21, 20⟩] (hT.trans rfl) (fun z h => nomatch h) (by decide) (by decide) (hts _ gclL_13) (va_Nw.use rfl hz.2.2.1) hc1 hc2 hc3 ?_
      refine lv_astore (lv' := [(4, .ref q9), (0, .ref (ad 150)), (1, .int x1), (2, .int x2), (3, .ref o)]) hx hb dL_spring_13 hl (by decide) rfl (fun ls hl => ?_)
      refine lv_iconst (v := 1) hx hb dL_spring_15 (by decide) ?_
      exact hl_iw hx hb hr hlk hK hKo hP1 hPo1 hS (Nat.le_of_ble_eq_true rfl) (Nat.le_of_ble_eq_true rfl) (fun q => absurd q (by decide)) dL_spring_16
    · have hE1 : E = "java/lang/IllegalArgumentException" := by rw [hE, h0]; rfl
      subst hE1
      refine vx_catch hown [⟨0, 10, 13, 13⟩] ⟨0, 10, 17, 15⟩ [⟨0, 10, 21, 20⟩] (hT.trans rfl) (fun z h => by obtain rfl := List.mem_singleton.mp h; exact Or.inr ⟨by decide, "java/lang/IndexOutOfBoundsException", hts _ gclL_13, hn.1⟩) (by decide) (by decide) (hts _ gclL_15) (va_Nw.use rfl hz.2.2.2.1) hc1 hc2 hc3 ?_
      refine lv_astore (lv' := [(4, .ref q9), (0, .ref (ad 150)), (1, .int x1), (2, .int x2), (3, .ref o)]) hx hb dL_spring_17 hl (by decide) rfl (fun ls hl => ?_)
      refine lv_iconst (v := 2) hx hb dL_spring_19 (by decide) ?_
      exact hl_iw hx hb hr hlk hK hKo hP1 hPo1 hS (Nat.le_of_ble_eq_true rfl) (Nat.le_of_ble_eq_true rfl) (fun q => absurd q (by decide)) dL_spring_20
    · have hE1 : E = "java/lang/IllegalStateException" := by rw [hE, h0]; rfl
      subst hE1
      refine vx_catch hown [⟨0, 10, 13, 13⟩, ⟨0, 10, 17, 15⟩] ⟨0, 10, 21, 20⟩ [] (hT.trans rfl) (fun z h => by
        rcases List.mem_cons.mp h with rfl | h
        · exact Or.inr ⟨by decide, "java/lang/IndexOutOfBoundsException", hts _ gclL_13, hn.2.1⟩
        · obtain rfl := List.mem_singleton.mp h
          exact Or.inr ⟨by decide, "java/lang/IllegalArgumentException", hts _ gclL_15, hn.2.2⟩) (by decide) (by decide) (hts _ gclL_20) (va_Nw.use rfl hz.2.2.2.2.1) hc1 hc2 hc3 ?_
      refine lv_astore (lv' := [(4, .ref q9), (0, .ref (ad 150)), (1, .int x1), (2, .int x2), (3, .ref o)]) hx hb dL_spring_21 hl (by decide) rfl (fun ls hl => ?_)
      refine lv_iconst (v := 3) hx hb dL_spring_23 (by decide) ?_
      exact hl_iw hx hb hr hlk hK hKo hP1 hPo1 hS (Nat.le_of_ble_eq_true rfl) (Nat.le_of_ble_eq_true rfl) (fun q => absurd q (by decide)) dL_spring_24
  · obtain ⟨rfl, h0⟩ := hw
    have hP1 : va_P D vwCl (cwW Y ad t.2.2) H1 := by rw [← ht]; exact hB.1
    have hPo1 : va_P D vwCl (oW cL o f) H1 := va_P.kept hPo (fun k q hq => hk1 q.1 (va_at.lt (hPo k q hq)) (by rw [oW_o hq]; exact hO_n ho))
    have hkc : kc = 0 := by
      rcases hk with ⟨_, q⟩ | ⟨q, _⟩ | ⟨q, _⟩ | ⟨q, _⟩
      · exact q
      · exact absurd (q.symm.trans h0) (by decide)
      · exact absurd (q.symm.trans h0) (by decide)
      · exact absurd (q.symm.trans h0) (by decide)
    subst hkc
    refine lv_i2l hx hb dL_spring_8 rfl ?_
    refine va_last (A := hA ad o s.heap.size) hx hb hKo (vP_c (hPo1 0 _ rfl) hP1) (vD_c (Or.inr rfl) (fun k q hq => by obtain ⟨i, hi, e⟩ := cW_q hq; rw [e]; exact ho.2 i hi) (⟨(cD (Y := Y) (μ := t.2.2) (sz := s.heap.size) hI).1 , fun k q hq => Or.inl ((cD (Y := Y) (μ := t.2.2) (sz := s.heap.size) hI).2 k q hq)⟩)) hS 0 0 rfl rfl (vp_in_nI (n := 0) (by omega) (by omega)) dL_spring_9 (fun H2 locs2 hP2 _ hS2 => ?_)
    refine lv_goto (tgt := 25) hx hb dL_spring_10 (by decide) ?_
    refine lv_iconst (v := 0) hx hb dL_spring_25 (by decide) ?_
    exact hl_iw (g := vp_updL f (Int32.toNatClampNeg 0) ((t.2.1).toInt64)) hx hb hr hlk hK hKo (fun k q hq => hP2 (k + 1) q hq) (fun k q hq => by cases k with | zero => cases hq; exact hP2 0 _ rfl | succ k => cases hq) hS2 (Nat.le_of_ble_eq_true rfl) (Nat.le_of_ble_eq_true rfl) (fun _ => if_pos rfl) dL_spring_26
set_option maxRecDepth 100000 in
set_option maxHeartbeats 4000000 in
theorem h6_car (l : Launch) {D : va_G} {Y : cYt} {ad : Nat → Nat} {mu : Nat → Nat → Int32} {cL : ClassId} {o : Nat} {f : Nat → Int64} (hI : cInj ad) (hl0 : l.stackTraces = false) (sz : Nat) (ho : hO ad o sz)  {t : Int32 × Int32 × (Nat → Nat → Int32)} (hf : f4_car_0 mu = some t) {kc : Int32} (hk : t.1 = 0 ∧ kc = 0 ∨ t.1 = 3 ∧ kc = 1) : vx_Met l yL_car uL_car rmL (va_Pc [.ref (ad 150), .ref o] (fun U => U.heap.size = sz ∧ hZ ad o sz U ∧ hB D Y ad cL o mu f U)) (va_Qi (fun (r9 : Int32) (g : Nat → Int64) => r9 = kc ∧ (kc = 0 → g 0 = (t.2.1).toInt64)) (fun g t9 => hB D Y ad cL o t.2.2 g t9) (hA ad o sz)) (vx_X (fun (_ : Unit) => False) (fun _ _ _ => True) (hA ad o sz)) 3 18 (hA ad o sz) := by
  refine vx_ofWH (cc := cL_car) (maxL := 3) (ret := some .int) (hh := [(0, 8, 11, 20)]) (by decide) rfl ?_
  intro p e s m args below meth c s₁ B hml hv
  obtain ⟨rfl, hsz, ⟨hz, hn⟩, ⟨hP, hK⟩, hPo, hKo⟩ := hv
  subst hsz
  have hx := B.exec
  have hb := B.bytes
  have hr := B.returns
  have hlk := B.notSynchronized
  have hown : s.vm.findClass RL = some m.cls := findClass_of_methodNamed B.named
  have hts : ∀ w ∈ gw, w.before ([.ref (ad 150), .ref o] : List Value).toArray s = true := fun w h => atoms_spec (ws := uL_car) B.pre w (List.mem_cons_of_mem _ h)
  have hT : c.exceptionTable.toList = tableOf [(0, 8, 11, 20)] := vx_table (x := yL_car) B (atoms_spec (ws := uL_car) B.pre _ List.mem_cons_self)
  have S : CallFix p m c cL_car 3 s ([.ref (ad 150), .ref o] : List Value).toArray gw RL := ⟨hx, hb, hml, hown, hts⟩
  have hl := lv_entry ([.ref (ad 150), .ref o]) (n := 3) (Nat.le_of_ble_eq_true rfl)
  rw [lg_entry_eq]
  generalize (lg_sl ([.ref (ad 150), .ref o]) ++ List.replicate (3 - (lg_sl ([.ref (ad 150), .ref o])).length) Slot.unset).toArray = ls at hl ⊢
  have hl : lv_has ls 3 [(0, .ref (ad 150)), (1, .ref o)] := hl
  refine lv_aload_n hx hb dL_car_0 rfl (lv_at hl 1 rfl) ?_
  refine lv_iconst (v := 0) hx hb dL_car_1 (by decide) ?_
  refine lv_aload_n hx hb dL_car_2 rfl (lv_at hl 0 rfl) ?_
  refine vx_calli (vx_runV (As := []) (rest := [.int 0, .ref o]) S (c4_car l hI hl0 s.heap.size  hf) (cwV 0 hts qL_22 rfl rfl rfl (by decide +kernel) ⟨Nat.le_of_ble_eq_true rfl, Nat.le_of_ble_eq_true rfl⟩) ⟨hc_bl, va_recv hK hP (ci := 4) (q0 := 150) rfl (cw_ate (by omega) rfl), fun U hU hW => ⟨rfl, by rw [hU], zx_at hz hW (fun a _ _ => by rw [hU]) (fun q h => Or.inl h), by rw [hU]; exact hP, va_K.moved hW.alike hK⟩⟩ rfl rfl hl.1 rfl (lv_room (Nat.le_of_ble_eq_true rfl)) dL_car_3 ⟨Nat.le_of_ble_eq_true rfl, Nat.le_of_ble_eq_true rfl⟩) (va_S.rf (A := hA ad o s.heap.size) (H0 := s.heap)) (fun q _ h => Or.inl h) (fun q h => Or.inl h) (fun q _ h => Or.inl h) (fun E ce q9 u t9 H1 locs1 ht hvm hpx hB hz1 hk1 hS hc1 hc2 hc3 => ?_) (fun r u t9 H1 locs1 ht hvm hw hB hz1 hk1 hS => ?_)
  · obtain ⟨hE, hB⟩ := hB
    have hP1 : va_P D vwCl (cwW Y ad t.2.2) H1 := by rw [← ht]; exact hB.1
    have hPo1 : va_P D vwCl (oW cL o f) H1 := va_P.kept hPo (fun k q hq => hk1 q.1 (va_at.lt (hPo k q hq)) (by rw [oW_o hq]; exact hO_n ho))
    rcases hk with ⟨h0, -⟩ | ⟨h0, rfl⟩
    · exact absurd h0 hpx
    · have hE1 : E = "java/lang/IllegalStateException" := by rw [hE, h0]; rfl
      subst hE1
      refine vx_catch hown [] ⟨0, 8, 11, 20⟩ [] (hT.trans rfl) (fun z h => nomatch h) (by decide) (by decide) (hts _ gclL_20) (va_Nw.use rfl hz.2.2.2.2.1) hc1 hc2 hc3 ?_
      refine lv_astore_n (lv' := [(2, .ref q9), (0, .ref (ad 150)), (1, .ref o)]) hx hb dL_car_11 rfl hl (by decide) rfl (fun ls hl => ?_)
      refine lv_iconst (v := 1) hx hb dL_car_12 (by decide) ?_
      exact hl_iw hx hb hr hlk hK hKo hP1 hPo1 hS (Nat.le_of_ble_eq_true rfl) (Nat.le_of_ble_eq_true rfl) (fun q => absurd q (by decide)) dL_car_13
  · obtain ⟨rfl, h0⟩ := hw
    have hP1 : va_P D vwCl (cwW Y ad t.2.2) H1 := by rw [← ht]; exact hB.1
    have hPo1 : va_P D vwCl (oW cL o f) H1 := va_P.kept hPo (fun k q hq => hk1 q.1 (va_at.lt (hPo k q hq)) (by rw [oW_o hq]; exact hO_n ho))
    have hkc : kc = 0 := by
      rcases hk with ⟨_, q⟩ | ⟨q, _⟩
      · exact q
      · exact absurd (q.symm.trans h0) (by decide)
    subst hkc
    refine lv_i2l hx hb dL_car_6 rfl ?_
    refine va_last (A := hA ad o s.heap.size) hx hb hKo (vP_c (hPo1 0 _ rfl) hP1) (vD_c (Or.inr rfl) (fun k q hq => by obtain ⟨i, hi, e⟩ := cW_q hq; rw [e]; exact ho.2 i hi) (⟨(cD (Y := Y) (μ := t.2.2) (sz := s.heap.size) hI).1 , fun k q hq => Or.inl ((cD (Y := Y) (μ := t.2.2) (sz := s.heap.size) hI).2 k q hq)⟩)) hS 0 0 rfl rfl (vp_in_nI (n := 0) (by omega) (by omega)) dL_car_7 (fun H2 locs2 hP2 _ hS2 => ?_)
    refine lv_goto (tgt := 14) hx hb dL_car_8 (by decide) ?_
    refine lv_iconst (v := 0) hx hb dL_car_14 (by decide) ?_
    exact hl_iw (g := vp_updL f (Int32.toNatClampNeg 0) ((t.2.1).toInt64)) hx hb hr hlk hK hKo (fun k q hq => hP2 (k + 1) q hq) (fun k q hq => by cases k with | zero => cases hq; exact hP2 0 _ rfl | succ k => cases hq) hS2 (Nat.le_of_ble_eq_true rfl) (Nat.le_of_ble_eq_true rfl) (fun _ => if_pos rfl) dL_car_15
set_option maxRecDepth 100000 in
set_option maxHeartbeats 4000000 in
theorem h6_load (l : Launch) {D : va_G} {Y : cYt} {ad : Nat → Nat} {mu : Nat → Nat → Int32} {cL : ClassId} {o : Nat} {f : Nat → Int64} (hI : cInj ad) (hl0 : l.stackTraces = false) (sz : Nat) (ho : hO ad o sz) (x1 : Int32) (x2 : Int32) {t : Int32 × Int32 × (Nat → Nat → Int32)} (hf : f4_load_0 x1 x2 mu = some t) {kc : Int32} (hk : t.1 = 0 ∧ kc = 0 ∨ t.1 = 1 ∧ kc = 1 ∨ t.1 = 2 ∧ kc = 2 ∨ t.1 = 3 ∧ kc = 3) : vx_Met l yL_load uL_load rmL (va_Pc [.ref (ad 150), .int x1, .int x2, .ref o] (fun U => U.heap.size = sz ∧ hZ ad o sz U ∧ hB D Y ad cL o mu f U)) (va_Qi (fun (r9 : Int32) (g : Nat → Int64) => r9 = kc ∧ (kc = 0 → g 0 = (t.2.1).toInt64)) (fun g t9 => hB D Y ad cL o t.2.2 g t9) (hA ad o sz)) (vx_X (fun (_ : Unit) => False) (fun _ _ _ => True) (hA ad o sz)) 3 18 (hA ad o sz) := by
  refine vx_ofWH (cc := cL_load) (maxL := 5) (ret := some .int) (hh := [(0, 10, 13, 13), (0, 10, 17, 15), (0, 10, 21, 20)]) (by decide) rfl ?_
  intro p e s m args below meth c s₁ B hml hv
  obtain ⟨rfl, hsz, ⟨hz, hn⟩, ⟨hP, hK⟩, hPo, hKo⟩ := hv
  subst hsz
  have hx := B.exec
  have hb := B.bytes
  have hr := B.returns
  have hlk := B.notSynchronized
  have hown : s.vm.findClass RL = some m.cls := findClass_of_methodNamed B.named
  have hts : ∀ w ∈ gw, w.before ([.ref (ad 150), .int x1, .int x2, .ref o] : List Value).toArray s = true := fun w h => atoms_spec (ws := uL_load) B.pre w (List.mem_cons_of_mem _ h)
  have hT : c.exceptionTable.toList = tableOf [(0, 10, 13, 13), (0, 10, 17, 15), (0, 10, 21, 20)] := vx_table (x := yL_load) B (atoms_spec (ws := uL_load) B.pre _ List.mem_cons_self)
  have S : CallFix p m c cL_load 5 s ([.ref (ad 150), .int x1, .int x2, .ref o] : List Value).toArray gw RL := ⟨hx, hb, hml, hown, hts⟩
  have hl := lv_entry ([.ref (ad 150), .int x1, .int x2, .ref o]) (n := 5) (Nat.le_of_ble_eq_true rfl)
  rw [lg_entry_eq]
  generalize (lg_sl ([.ref (ad 150), .int x1, .int x2, .ref o]) ++ List.replicate (5 - (lg_sl ([.ref (ad 150), .int x1, .int x2, .ref o])).length) Slot.unset).toArray = ls at hl ⊢
  have hl : lv_has ls 5 [(0, .ref (ad 150)), (1, .int x1), (2, .int x2), (3, .ref o)] := hl
  refine lv_aload_n hx hb dL_load_0 rfl (lv_at hl 3 rfl) ?_
  refine lv_iconst (v := 0) hx hb dL_load_1 (by decide) ?_
  refine lv_aload_n hx hb dL_load_2 rfl (lv_at hl 0 rfl) ?_
  refine lv_iload_n hx hb dL_load_3 rfl (lv_at hl 1 rfl) ?_
  refine lv_iload_n hx hb dL_load_4 rfl (lv_at hl 2 rfl) ?_
  refine vx_calli (vx_runV (As := [.int x1, .int x2]) (rest := [.int 0, .ref o]) S (c4_load l hI hl0 s.heap.size x1 x2 hf) (cwV 2 hts qL_26 rfl rfl rfl (by decide +kernel) ⟨Nat.le_of_ble_eq_true rfl, Nat.le_of_ble_eq_true rfl⟩) ⟨hc_bl, va_recv hK hP (ci := 4) (q0 := 150) rfl (cw_ate (by omega) rfl), fun U hU hW => ⟨rfl, by rw [hU], zx_at hz hW (fun a _ _ => by rw [hU]) (fun q h => Or.inl h), by rw [hU]; exact hP, va_K.moved hW.alike hK⟩⟩ rfl rfl hl.1 rfl (lv_room (Nat.le_of_ble_eq_true rfl)) dL_load_5 ⟨Nat.le_of_ble_eq_true rfl, Nat.le_of_ble_eq_true rfl⟩) (va_S.rf (A := hA ad o s.heap.size) (H0 := s.heap)) (fun q _ h => Or.inl h) (fun q h => Or.inl h) (fun q _ h => Or.inl h) (fun E ce q9 u t9 H1 locs1 ht hvm hpx hB hz1 hk1 hS hc1 hc2 hc3 => ?_) (fun r u t9 H1 locs1 ht hvm hw hB hz1 hk1 hS => ?_)
  · obtain ⟨hE, hB⟩ := hB
    have hP1 : va_P D vwCl (cwW Y ad t.2.2) H1 := by rw [← ht]; exact hB.1
    have hPo1 : va_P D vwCl (oW cL o f) H1 := va_P.kept hPo (fun k q hq => hk1 q.1 (va_at.lt (hPo k q hq)) (by rw [oW_o hq]; exact hO_n ho))
    rcases hk with ⟨h0, -⟩ | ⟨h0, rfl⟩ | ⟨h0, rfl⟩ | ⟨h0, rfl⟩
    · exact absurd h0 hpx
    · have hE1 : E = "java/lang/IndexOutOfBoundsException" := by rw [hE, h0]; rfl
      subst hE1
      refine vx_catch hown [] ⟨0, 10, 13, 13⟩ [⟨0, 10, 17, 15⟩, ⟨0, 10, 21, 20⟩] (hT.trans rfl) (fun z h => nomatch h) (by decide) (by decide) (hts _ gclL_13) (va_Nw.use rfl hz.2.2.1) hc1 hc2 hc3 ?_
      refine lv_astore (lv' := [(4, .ref q9), (0, .ref (ad 150)), (1, .int x1), (2, .int x2), (3, .ref o)]) hx hb dL_load_13 hl (by decide) rfl (fun ls hl => ?_)
      refine lv_iconst (v := 1) hx hb dL_load_15 (by decide) ?_
      exact hl_iw hx hb hr hlk hK hKo hP1 hPo1 hS (Nat.le_of_ble_eq_true rfl) (Nat.le_of_ble_eq_true rfl) (fun q => absurd q (by decide)) dL_load_16
    · have hE1 : E = "java/lang/IllegalArgumentException" := by rw [hE, h0]; rfl
      subst hE1
      refine vx_catch hown [⟨0, 10, 13, 13⟩] ⟨0, 10, 17, 15⟩ [⟨0, 10, 21, 20⟩] (hT.trans rfl) (fun z h => by obtain rfl := List.mem_singleton.mp h; exact Or.inr ⟨by decide, "java/lang/IndexOutOfBoundsException", hts _ gclL_13, hn.1⟩) (by decide) (by decide) (hts _ gclL_15) (va_Nw.use rfl hz.2.2.2.1) hc1 hc2 hc3 ?_
      refine lv_astore (lv' := [(4, .ref q9), (0, .ref (ad 150)), (1, .int x1), (2, .int x2), (3, .ref o)]) hx hb dL_load_17 hl (by decide) rfl (fun ls hl => ?_)
      refine lv_iconst (v := 2) hx hb dL_load_19 (by decide) ?_
      exact hl_iw hx hb hr hlk hK hKo hP1 hPo1 hS (Nat.le_of_ble_eq_true rfl) (Nat.le_of_ble_eq_true rfl) (fun q => absurd q (by decide)) dL_load_20
    · have hE1 : E = "java/lang/IllegalStateException" := by rw [hE, h0]; rfl
      subst hE1
      refine vx_catch hown [⟨0, 10, 13, 13⟩, ⟨0, 10, 17, 15⟩] ⟨0, 10, 21, 20⟩ [] (hT.trans rfl) (fun z h => by
        rcases List.mem_cons.mp h with rfl | h
        · exact Or.inr ⟨by decide, "java/lang/IndexOutOfBoundsException", hts _ gclL_13, hn.2.1⟩
        · obtain rfl := List.mem_singleton.mp h
          exact Or.inr ⟨by decide, "java/lang/IllegalArgumentException", hts _ gclL_15, hn.2.2⟩) (by decide) (by decide) (hts _ gclL_20) (va_Nw.use rfl hz.2.2.2.2.1) hc1 hc2 hc3 ?_
      refine lv_astore (lv' := [(4, .ref q9), (0, .ref (ad 150)), (1, .int x1), (2, .int x2), (3, .ref o)]) hx hb dL_load_21 hl (by decide) rfl (fun ls hl => ?_)
      refine lv_iconst (v := 3) hx hb dL_load_23 (by decide) ?_
      exact hl_iw hx hb hr hlk hK hKo hP1 hPo1 hS (Nat.le_of_ble_eq_true rfl) (Nat.le_of_ble_eq_true rfl) (fun q => absurd q (by decide)) dL_load_24
  · obtain ⟨rfl, h0⟩ := hw
    have hP1 : va_P D vwCl (cwW Y ad t.2.2) H1 := by rw [← ht]; exact hB.1
    have hPo1 : va_P D vwCl (oW cL o f) H1 := va_P.kept hPo (fun k q hq => hk1 q.1 (va_at.lt (hPo k q hq)) (by rw [oW_o hq]; exact hO_n ho))
    have hkc : kc = 0 := by
      rcases hk with ⟨_, q⟩ | ⟨q, _⟩ | ⟨q, _⟩ | ⟨q, _⟩
      · exact q
      · exact absurd (q.symm.trans h0) (by decide)
      · exact absurd (q.symm.trans h0) (by decide)
      · exact absurd (q.symm.trans h0) (by decide)
    subst hkc
    refine lv_i2l hx hb dL_load_8 rfl ?_
    refine va_last (A := hA ad o s.heap.size) hx hb hKo (vP_c (hPo1 0 _ rfl) hP1) (vD_c (Or.inr rfl) (fun k q hq => by obtain ⟨i, hi, e⟩ := cW_q hq; rw [e]; exact ho.2 i hi) (⟨(cD (Y := Y) (μ := t.2.2) (sz := s.heap.size) hI).1 , fun k q hq => Or.inl ((cD (Y := Y) (μ := t.2.2) (sz := s.heap.size) hI).2 k q hq)⟩)) hS 0 0 rfl rfl (vp_in_nI (n := 0) (by omega) (by omega)) dL_load_9 (fun H2 locs2 hP2 _ hS2 => ?_)
    refine lv_goto (tgt := 25) hx hb dL_load_10 (by decide) ?_
    refine lv_iconst (v := 0) hx hb dL_load_25 (by decide) ?_
    exact hl_iw (g := vp_updL f (Int32.toNatClampNeg 0) ((t.2.1).toInt64)) hx hb hr hlk hK hKo (fun k q hq => hP2 (k + 1) q hq) (fun k q hq => by cases k with | zero => cases hq; exact hP2 0 _ rfl | succ k => cases hq) hS2 (Nat.le_of_ble_eq_true rfl) (Nat.le_of_ble_eq_true rfl) (fun _ => if_pos rfl) dL_load_26
set_option maxRecDepth 100000 in
set_option maxHeartbeats 4000000 in
theorem h6_release (l : Launch) {D : va_G} {Y : cYt} {ad : Nat → Nat} {mu : Nat → Nat → Int32} {cL : ClassId} {o : Nat} {f : Nat → Int64} (hI : cInj ad) (hl0 : l.stackTraces = false) (sz : Nat) (ho : hO ad o sz) (x1 : Int32) (x2 : Int32) {t : Int32 × Int32 × (Nat → Nat → Int32)} (hf : f4_release_0 x1 x2 mu = some t) {kc : Int32} (hk : t.1 = 0 ∧ kc = 0 ∨ t.1 = 1 ∧ kc = 1 ∨ t.1 = 2 ∧ kc = 2) : vx_Met l yL_release uL_release rmL (va_Pc [.ref (ad 150), .int x1, .int x2, .ref o] (fun U => U.heap.size = sz ∧ hZ ad o sz U ∧ hB D Y ad cL o mu f U)) (va_Qi (fun (r9 : Int32) (g : Nat → Int64) => r9 = kc ∧ (kc = 0 → g 0 = (t.2.1).toInt64)) (fun g t9 => hB D Y ad cL o t.2.2 g t9) (hA ad o sz)) (vx_X (fun (_ : Unit) => False) (fun _ _ _ => True) (hA ad o sz)) 3 18 (hA ad o sz) := by
  refine vx_ofWH (cc := cL_release) (maxL := 5) (ret := some .int) (hh := [(0, 10, 13, 13), (0, 10, 17, 15)]) (by decide) rfl ?_
  intro p e s m args below meth c s₁ B hml hv
  obtain ⟨rfl, hsz, ⟨hz, hn⟩, ⟨hP, hK⟩, hPo, hKo⟩ := hv
  subst hsz
  have hx := B.exec
  have hb := B.bytes
  have hr := B.returns
  have hlk := B.notSynchronized
  have hown : s.vm.findClass RL = some m.cls := findClass_of_methodNamed B.named
  have hts : ∀ w ∈ gw, w.before ([.ref (ad 150), .int x1, .int x2, .ref o] : List Value).toArray s = true := fun w h => atoms_spec (ws := uL_release) B.pre w (List.mem_cons_of_mem _ h)
  have hT : c.exceptionTable.toList = tableOf [(0, 10, 13, 13), (0, 10, 17, 15)] := vx_table (x := yL_release) B (atoms_spec (ws := uL_release) B.pre _ List.mem_cons_self)
  have S : CallFix p m c cL_release 5 s ([.ref (ad 150), .int x1, .int x2, .ref o] : List Value).toArray gw RL := ⟨hx, hb, hml, hown, hts⟩
  have hl := lv_entry ([.ref (ad 150), .int x1, .int x2, .ref o]) (n := 5) (Nat.le_of_ble_eq_true rfl)
  rw [lg_entry_eq]
  generalize (lg_sl ([.ref (ad 150), .int x1, .int x2, .ref o]) ++ List.replicate (5 - (lg_sl ([.ref (ad 150), .int x1, .int x2, .ref o])).length) Slot.unset).toArray = ls at hl ⊢
  have hl : lv_has ls 5 [(0, .ref (ad 150)), (1, .int x1), (2, .int x2), (3, .ref o)] := hl
  refine lv_aload_n hx hb dL_release_0 rfl (lv_at hl 3 rfl) ?_
  refine lv_iconst (v := 0) hx hb dL_release_1 (by decide) ?_
  refine lv_aload_n hx hb dL_release_2 rfl (lv_at hl 0 rfl) ?_
  refine lv_iload_n hx hb dL_release_3 rfl (lv_at hl 1 rfl) ?_
  refine lv_iload_n hx hb dL_release_4 rfl (lv_at hl 2 rfl) ?_
  refine vx_calli (vx_runV (As := [.int x1, .int x2]) (rest := [.int 0, .ref o]) S (c4_release l hI hl0 s.heap.size x1 x2 hf) (cwV 2 hts qL_29 rfl rfl rfl (by decide +kernel) ⟨Nat.le_of_ble_eq_true rfl, Nat.le_of_ble_eq_true rfl⟩) ⟨hc_bl, va_recv hK hP (ci := 4) (q0 := 150) rfl (cw_ate (by omega) rfl), fun U hU hW => ⟨rfl, by rw [hU], zx_at hz hW (fun a _ _ => by rw [hU]) (fun q h => Or.inl h), by rw [hU]; exact hP, va_K.moved hW.alike hK⟩⟩ rfl rfl hl.1 rfl (lv_room (Nat.le_of_ble_eq_true rfl)) dL_release_5 ⟨Nat.le_of_ble_eq_true rfl, Nat.le_of_ble_eq_true rfl⟩) (va_S.rf (A := hA ad o s.heap.size) (H0 := s.heap)) (fun q _ h => Or.inl h) (fun q h => Or.inl h) (fun q _ h => Or.inl h) (fun E ce q9 u t9 H1 locs1 ht hvm hpx hB hz1 hk1 hS hc1 hc2 hc3 => ?_) (fun r u t9 H1 locs1 ht hvm hw hB hz1 hk1 hS => ?_)
  · obtain ⟨hE, hB⟩ := hB
    have hP1 : va_P D vwCl (cwW Y ad t.2.2) H1 := by rw [← ht]; exact hB.1
    have hPo1 : va_P D vwCl (oW cL o f) H1 := va_P.kept hPo (fun k q hq => hk1 q.1 (va_at.lt (hPo k q hq)) (by rw [oW_o hq]; exact hO_n ho))
    rcases hk with ⟨h0, -⟩ | ⟨h0, rfl⟩ | ⟨h0, rfl⟩
    · exact absurd h0 hpx
    · have hE1 : E = "java/lang/IndexOutOfBoundsException" := by rw [hE, h0]; rfl
      subst hE1
      refine vx_catch hown [] ⟨0, 10, 13, 13⟩ [⟨0, 10, 17, 15⟩] (hT.trans rfl) (fun z h => nomatch h) (by decide) (by decide) (hts _ gclL_13) (va_Nw.use rfl hz.2.2.1) hc1 hc2 hc3 ?_
      refine lv_astore (lv' := [(4, .ref q9), (0, .ref (ad 150)), (1, .int x1), (2, .int x2), (3, .ref o)]) hx hb dL_release_13 hl (by decide) rfl (fun ls hl => ?_)
      refine lv_iconst (v := 1) hx hb dL_release_15 (by decide) ?_
      exact hl_iw hx hb hr hlk hK hKo hP1 hPo1 hS (Nat.le_of_ble_eq_true rfl) (Nat.le_of_ble_eq_true rfl) (fun q => absurd q (by decide)) dL_release_16
    · have hE1 : E = "java/lang/IllegalArgumentException" := by rw [hE, h0]; rfl
      subst hE1
      refine vx_catch hown [⟨0, 10, 13, 13⟩] ⟨0, 10, 17, 15⟩ [] (hT.trans rfl) (fun z h => by obtain rfl := List.mem_singleton.mp h; exact Or.inr ⟨by decide, "java/lang/IndexOutOfBoundsException", hts _ gclL_13, hn.1⟩) (by decide) (by decide) (hts _ gclL_15) (va_Nw.use rfl hz.2.2.2.1) hc1 hc2 hc3 ?_
      refine lv_astore (lv' := [(4, .ref q9), (0, .ref (ad 150)), (1, .int x1), (2, .int x2), (3, .ref o)]) hx hb dL_release_17 hl (by decide) rfl (fun ls hl => ?_)
      refine lv_iconst (v := 2) hx hb dL_release_19 (by decide) ?_
      exact hl_iw hx hb hr hlk hK hKo hP1 hPo1 hS (Nat.le_of_ble_eq_true rfl) (Nat.le_of_ble_eq_true rfl) (fun q => absurd q (by decide)) dL_release_20
  · obtain ⟨rfl, h0⟩ := hw
    have hP1 : va_P D vwCl (cwW Y ad t.2.2) H1 := by rw [← ht]; exact hB.1
    have hPo1 : va_P D vwCl (oW cL o f) H1 := va_P.kept hPo (fun k q hq => hk1 q.1 (va_at.lt (hPo k q hq)) (by rw [oW_o hq]; exact hO_n ho))
    have hkc : kc = 0 := by
      rcases hk with ⟨_, q⟩ | ⟨q, _⟩ | ⟨q, _⟩
      · exact q
      · exact absurd (q.symm.trans h0) (by decide)
      · exact absurd (q.symm.trans h0) (by decide)
    subst hkc
    refine lv_i2l hx hb dL_release_8 rfl ?_
    refine va_last (A := hA ad o s.heap.size) hx hb hKo (vP_c (hPo1 0 _ rfl) hP1) (vD_c (Or.inr rfl) (fun k q hq => by obtain ⟨i, hi, e⟩ := cW_q hq; rw [e]; exact ho.2 i hi) (⟨(cD (Y := Y) (μ := t.2.2) (sz := s.heap.size) hI).1 , fun k q hq => Or.inl ((cD (Y := Y) (μ := t.2.2) (sz := s.heap.size) hI).2 k q hq)⟩)) hS 0 0 rfl rfl (vp_in_nI (n := 0) (by omega) (by omega)) dL_release_9 (fun H2 locs2 hP2 _ hS2 => ?_)
    refine lv_goto (tgt := 21) hx hb dL_release_10 (by decide) ?_
    refine lv_iconst (v := 0) hx hb dL_release_21 (by decide) ?_
    exact hl_iw (g := vp_updL f (Int32.toNatClampNeg 0) ((t.2.1).toInt64)) hx hb hr hlk hK hKo (fun k q hq => hP2 (k + 1) q hq) (fun k q hq => by cases k with | zero => cases hq; exact hP2 0 _ rfl | succ k => cases hq) hS2 (Nat.le_of_ble_eq_true rfl) (Nat.le_of_ble_eq_true rfl) (fun _ => if_pos rfl) dL_release_22
set_option maxRecDepth 100000 in
set_option maxHeartbeats 4000000 in
theorem h6_brake (l : Launch) {D : va_G} {Y : cYt} {ad : Nat → Nat} {mu : Nat → Nat → Int32} {cL : ClassId} {o : Nat} {f : Nat → Int64} (hI : cInj ad) (hl0 : l.stackTraces = false) (sz : Nat) (ho : hO ad o sz) (x1 : Int32) (x2 : Int32) {t : Int32 × Int32 × (Nat → Nat → Int32)} (hf : f4_brake_0 x1 x2 mu = some t) {kc : Int32} (hk : t.1 = 0 ∧ kc = 0 ∨ t.1 = 1 ∧ kc = 1 ∨ t.1 = 2 ∧ kc = 2 ∨ t.1 = 3 ∧ kc = 3) : vx_Met l yL_brake uL_brake rmL (va_Pc [.ref (ad 150), .int x1, .int x2, .ref o] (fun U => U.heap.size = sz ∧ hZ ad o sz U ∧ hB D Y ad cL o mu f U)) (va_Qi (fun (r9 : Int32) (g : Nat → Int64) => r9 = kc ∧ (kc = 0 → g 0 = (t.2.1).toInt64)) (fun g t9 => hB D Y ad cL o t.2.2 g t9) (hA ad o sz)) (vx_X (fun (_ : Unit) => False) (fun _ _ _ => True) (hA ad o sz)) 3 18 (hA ad o sz) := by
  refine vx_ofWH (cc := cL_brake) (maxL := 5) (ret := some .int) (hh := [(0, 10, 13, 13), (0, 10, 17, 15), (0, 10, 21, 20)]) (by decide) rfl ?_
  intro p e s m args below meth c s₁ B hml hv
  obtain ⟨rfl, hsz, ⟨hz, hn⟩, ⟨hP, hK⟩, hPo, hKo⟩ := hv
  subst hsz
  have hx := B.exec
  have hb := B.bytes
  have hr := B.returns
  have hlk := B.notSynchronized
  have hown : s.vm.findClass RL = some m.cls := findClass_of_methodNamed B.named
  have hts : ∀ w ∈ gw, w.before ([.ref (ad 150), .int x1, .int x2, .ref o] : List Value).toArray s = true := fun w h => atoms_spec (ws := uL_brake) B.pre w (List.mem_cons_of_mem _ h)
  have hT : c.exceptionTable.toList = tableOf [(0, 10, 13, 13), (0, 10, 17, 15), (0, 10, 21, 20)] := vx_table (x := yL_brake) B (atoms_spec (ws := uL_brake) B.pre _ List.mem_cons_self)
  have S : CallFix p m c cL_brake 5 s ([.ref (ad 150), .int x1, .int x2, .ref o] : List Value).toArray gw RL := ⟨hx, hb, hml, hown, hts⟩
  have hl := lv_entry ([.ref (ad 150), .int x1, .int x2, .ref o]) (n := 5) (Nat.le_of_ble_eq_true rfl)
  rw [lg_entry_eq]
  generalize (lg_sl ([.ref (ad 150), .int x1, .int x2, .ref o]) ++ List.replicate (5 - (lg_sl ([.ref (ad 150), .int x1, .int x2, .ref o])).length) Slot.unset).toArray = ls at hl ⊢
  have hl : lv_has ls 5 [(0, .ref (ad 150)), (1, .int x1), (2, .int x2), (3, .ref o)] := hl
  refine lv_aload_n hx hb dL_brake_0 rfl (lv_at hl 3 rfl) ?_
  refine lv_iconst (v := 0) hx hb dL_brake_1 (by decide) ?_
  refine lv_aload_n hx hb dL_brake_2 rfl (lv_at hl 0 rfl) ?_
  refine lv_iload_n hx hb dL_brake_3 rfl (lv_at hl 1 rfl) ?_
  refine lv_iload_n hx hb dL_brake_4 rfl (lv_at hl 2 rfl) ?_
  refine vx_calli (vx_runV (As := [.int x1, .int x2]) (rest := [.int 0, .ref o]) S (c4_brake l hI hl0 s.heap.size x1 x2 hf) (cwV 2 hts qL_32 rfl rfl rfl (by decide +kernel) ⟨Nat.le_of_ble_eq_true rfl, Nat.le_of_ble_eq_true rfl⟩) ⟨hc_bl, va_recv hK hP (ci := 4) (q0 := 150) rfl (cw_ate (by omega) rfl), fun U hU hW => ⟨rfl, by rw [hU], zx_at hz hW (fun a _ _ => by rw [hU]) (fun q h => Or.inl h), by rw [hU]; exact hP, va_K.moved hW.alike hK⟩⟩ rfl rfl hl.1 rfl (lv_room (Nat.le_of_ble_eq_true rfl)) dL_brake_5 ⟨Nat.le_of_ble_eq_true rfl, Nat.le_of_ble_eq_true rfl⟩) (va_S.rf (A := hA ad o s.heap.size) (H0 := s.heap)) (fun q _ h => Or.inl h) (fun q h => Or.inl h) (fun q _ h => Or.inl h) (fun E ce q9 u t9 H1 locs1 ht hvm hpx hB hz1 hk1 hS hc1 hc2 hc3 => ?_) (fun r u t9 H1 locs1 ht hvm hw hB hz1 hk1 hS => ?_)
  · obtain ⟨hE, hB⟩ := hB
    have hP1 : va_P D vwCl (cwW Y ad t.2.2) H1 := by rw [← ht]; exact hB.1
    have hPo1 : va_P D vwCl (oW cL o f) H1 := va_P.kept hPo (fun k q hq => hk1 q.1 (va_at.lt (hPo k q hq)) (by rw [oW_o hq]; exact hO_n ho))
    rcases hk with ⟨h0, -⟩ | ⟨h0, rfl⟩ | ⟨h0, rfl⟩ | ⟨h0, rfl⟩
    · exact absurd h0 hpx
    · have hE1 : E = "java/lang/IndexOutOfBoundsException" := by rw [hE, h0]; rfl
      subst hE1
      refine vx_catch hown [] ⟨0, 10, 13, 13⟩ [⟨0, 10, 17, 15⟩, ⟨0, 10, 21, 20⟩] (hT.trans rfl) (fun z h => nomatch h) (by decide) (by decide) (hts _ gclL_13) (va_Nw.use rfl hz.2.2.1) hc1 hc2 hc3 ?_
      refine lv_astore (lv' := [(4, .ref q9), (0, .ref (ad 150)), (1, .int x1), (2, .int x2), (3, .ref o)]) hx hb dL_brake_13 hl (by decide) rfl (fun ls hl => ?_)
      refine lv_iconst (v := 1) hx hb dL_brake_15 (by decide) ?_
      exact hl_iw hx hb hr hlk hK hKo hP1 hPo1 hS (Nat.le_of_ble_eq_true rfl) (Nat.le_of_ble_eq_true rfl) (fun q => absurd q (by decide)) dL_brake_16
    · have hE1 : E = "java/lang/IllegalArgumentException" := by rw [hE, h0]; rfl
      subst hE1
      refine vx_catch hown [⟨0, 10, 13, 13⟩] ⟨0, 10, 17, 15⟩ [⟨0, 10, 21, 20⟩] (hT.trans rfl) (fun z h => by obtain rfl := List.mem_singleton.mp h; exact Or.inr ⟨by decide, "java/lang/IndexOutOfBoundsException", hts _ gclL_13, hn.1⟩) (by decide) (by decide) (hts _ gclL_15) (va_Nw.use rfl hz.2.2.2.1) hc1 hc2 hc3 ?_
      refine lv_astore (lv' := [(4, .ref q9), (0, .ref (ad 150)), (1, .int x1), (2, .int x2), (3, .ref o)]) hx hb dL_brake_17 hl (by decide) rfl (fun ls hl => ?_)
      refine lv_iconst (v := 2) hx hb dL_brake_19 (by decide) ?_
      exact hl_iw hx hb hr hlk hK hKo hP1 hPo1 hS (Nat.le_of_ble_eq_true rfl) (Nat.le_of_ble_eq_true rfl) (fun q => absurd q (by decide)) dL_brake_20
    · have hE1 : E = "java/lang/IllegalStateException" := by rw [hE, h0]; rfl
      subst hE1
      refine vx_catch hown [⟨0, 10, 13, 13⟩, ⟨0, 10, 17, 15⟩] ⟨0, 10, 21, 20⟩ [] (hT.trans rfl) (fun z h => by
        rcases List.mem_cons.mp h with rfl | h
        · exact Or.inr ⟨by decide, "java/lang/IndexOutOfBoundsException", hts _ gclL_13, hn.2.1⟩
        · obtain rfl := List.mem_singleton.mp h
          exact Or.inr ⟨by decide, "java/lang/IllegalArgumentException", hts _ gclL_15, hn.2.2⟩) (by decide) (by decide) (hts _ gclL_20) (va_Nw.use rfl hz.2.2.2.2.1) hc1 hc2 hc3 ?_
      refine lv_astore (lv' := [(4, .ref q9), (0, .ref (ad 150)), (1, .int x1), (2, .int x2), (3, .ref o)]) hx hb dL_brake_21 hl (by decide) rfl (fun ls hl => ?_)
      refine lv_iconst (v := 3) hx hb dL_brake_23 (by decide) ?_
      exact hl_iw hx hb hr hlk hK hKo hP1 hPo1 hS (Nat.le_of_ble_eq_true rfl) (Nat.le_of_ble_eq_true rfl) (fun q => absurd q (by decide)) dL_brake_24
  · obtain ⟨rfl, h0⟩ := hw
    have hP1 : va_P D vwCl (cwW Y ad t.2.2) H1 := by rw [← ht]; exact hB.1
    have hPo1 : va_P D vwCl (oW cL o f) H1 := va_P.kept hPo (fun k q hq => hk1 q.1 (va_at.lt (hPo k q hq)) (by rw [oW_o hq]; exact hO_n ho))
    have hkc : kc = 0 := by
      rcases hk with ⟨_, q⟩ | ⟨q, _⟩ | ⟨q, _⟩ | ⟨q, _⟩
      · exact q
      · exact absurd (q.symm.trans h0) (by decide)
      · exact absurd (q.symm.trans h0) (by decide)
      · exact absurd (q.symm.trans h0) (by decide)
    subst hkc
    refine lv_i2l hx hb dL_brake_8 rfl ?_
    refine va_last (A := hA ad o s.heap.size) hx hb hKo (vP_c (hPo1 0 _ rfl) hP1) (vD_c (Or.inr rfl) (fun k q hq => by obtain ⟨i, hi, e⟩ := cW_q hq; rw [e]; exact ho.2 i hi) (⟨(cD (Y := Y) (μ := t.2.2) (sz := s.heap.size) hI).1 , fun k q hq => Or.inl ((cD (Y := Y) (μ := t.2.2) (sz := s.heap.size) hI).2 k q hq)⟩)) hS 0 0 rfl rfl (vp_in_nI (n := 0) (by omega) (by omega)) dL_brake_9 (fun H2 locs2 hP2 _ hS2 => ?_)
    refine lv_goto (tgt := 25) hx hb dL_brake_10 (by decide) ?_
    refine lv_iconst (v := 0) hx hb dL_brake_25 (by decide) ?_
    exact hl_iw (g := vp_updL f (Int32.toNatClampNeg 0) ((t.2.1).toInt64)) hx hb hr hlk hK hKo (fun k q hq => hP2 (k + 1) q hq) (fun k q hq => by cases k with | zero => cases hq; exact hP2 0 _ rfl | succ k => cases hq) hS2 (Nat.le_of_ble_eq_true rfl) (Nat.le_of_ble_eq_true rfl) (fun _ => if_pos rfl) dL_brake_26
set_option maxRecDepth 100000 in
set_option maxHeartbeats 4000000 in
theorem h6_pull (l : Launch) {D : va_G} {Y : cYt} {ad : Nat → Nat} {mu : Nat → Nat → Int32} {cL : ClassId} {o : Nat} {f : Nat → Int64} (hI : cInj ad) (hl0 : l.stackTraces = false) (sz : Nat) (ho : hO ad o sz) (x1 : Int32) {t : Int32 × Int32 × (Nat → Nat → Int32)} (hf : f4_pull_0 x1 mu = some t) {kc : Int32} (hk : t.1 = 0 ∧ kc = 0 ∨ t.1 = 1 ∧ kc = 1) : vx_Met l yL_pull uL_pull rmL (va_Pc [.ref (ad 150), .int x1, .ref o] (fun U => U.heap.size = sz ∧ hZ ad o sz U ∧ hB D Y ad cL o mu f U)) (va_Qi (fun (r9 : Int32) (g : Nat → Int64) => r9 = kc ∧ (kc = 0 → g 0 = (t.2.1).toInt64)) (fun g t9 => hB D Y ad cL o t.2.2 g t9) (hA ad o sz)) (vx_X (fun (_ : Unit) => False) (fun _ _ _ => True) (hA ad o sz)) 3 18 (hA ad o sz) := by
  refine vx_ofWH (cc := cL_pull) (maxL := 4) (ret := some .int) (hh := [(0, 9, 12, 13)]) (by decide) rfl ?_
  intro p e s m args below meth c s₁ B hml hv
  obtain ⟨rfl, hsz, ⟨hz, hn⟩, ⟨hP, hK⟩, hPo, hKo⟩ := hv
  subst hsz
  have hx := B.exec
  have hb := B.bytes
  have hr := B.returns
  have hlk := B.notSynchronized
  have hown : s.vm.findClass RL = some m.cls := findClass_of_methodNamed B.named
  have hts : ∀ w ∈ gw, w.before ([.ref (ad 150), .int x1, .ref o] : List Value).toArray s = true := fun w h => atoms_spec (ws := uL_pull) B.pre w (List.mem_cons_of_mem _ h)
  have hT : c.exceptionTable.toList = tableOf [(0, 9, 12, 13)] := vx_table (x := yL_pull) B (atoms_spec (ws := uL_pull) B.pre _ List.mem_cons_self)
  have S : CallFix p m c cL_pull 4 s ([.ref (ad 150), .int x1, .ref o] : List Value).toArray gw RL := ⟨hx, hb, hml, hown, hts⟩
  have hl := lv_entry ([.ref (ad 150), .int x1, .ref o]) (n := 4) (Nat.le_of_ble_eq_true rfl)
  rw [lg_entry_eq]
  generalize (lg_sl ([.ref (ad 150), .int x1, .ref o]) ++ List.replicate (4 - (lg_sl ([.ref (ad 150), .int x1, .ref o])).length) Slot.unset).toArray = ls at hl ⊢
  have hl : lv_has ls 4 [(0, .ref (ad 150)), (1, .int x1), (2, .ref o)] := hl
  refine lv_aload_n hx hb dL_pull_0 rfl (lv_at hl 2 rfl) ?_
  refine lv_iconst (v := 0) hx hb dL_pull_1 (by decide) ?_
  refine lv_aload_n hx hb dL_pull_2 rfl (lv_at hl 0 rfl) ?_
  refine lv_iload_n hx hb dL_pull_3 rfl (lv_at hl 1 rfl) ?_
  refine vx_calli (vx_runV (As := [.int x1]) (rest := [.int 0, .ref o]) S (c4_pull l hI hl0 s.heap.size x1 hf) (cwV 1 hts qL_35 rfl rfl rfl (by decide +kernel) ⟨Nat.le_of_ble_eq_true rfl, Nat.le_of_ble_eq_true rfl⟩) ⟨hc_bl, va_recv hK hP (ci := 4) (q0 := 150) rfl (cw_ate (by omega) rfl), fun U hU hW => ⟨rfl, by rw [hU], zx_at hz hW (fun a _ _ => by rw [hU]) (fun q h => Or.inl h), by rw [hU]; exact hP, va_K.moved hW.alike hK⟩⟩ rfl rfl hl.1 rfl (lv_room (Nat.le_of_ble_eq_true rfl)) dL_pull_4 ⟨Nat.le_of_ble_eq_true rfl, Nat.le_of_ble_eq_true rfl⟩) (va_S.rf (A := hA ad o s.heap.size) (H0 := s.heap)) (fun q _ h => Or.inl h) (fun q h => Or.inl h) (fun q _ h => Or.inl h) (fun E ce q9 u t9 H1 locs1 ht hvm hpx hB hz1 hk1 hS hc1 hc2 hc3 => ?_) (fun r u t9 H1 locs1 ht hvm hw hB hz1 hk1 hS => ?_)
  · obtain ⟨hE, hB⟩ := hB
    have hP1 : va_P D vwCl (cwW Y ad t.2.2) H1 := by rw [← ht]; exact hB.1
    have hPo1 : va_P D vwCl (oW cL o f) H1 := va_P.kept hPo (fun k q hq => hk1 q.1 (va_at.lt (hPo k q hq)) (by rw [oW_o hq]; exact hO_n ho))
    rcases hk with ⟨h0, -⟩ | ⟨h0, rfl⟩
    · exact absurd h0 hpx
    · have hE1 : E = "java/lang/IndexOutOfBoundsException" := by rw [hE, h0]; rfl
      subst hE1
      refine vx_catch hown [] ⟨0, 9, 12, 13⟩ [] (hT.trans rfl) (fun z h => nomatch h) (by decide) (by decide) (hts _ gclL_13) (va_Nw.use rfl hz.2.2.1) hc1 hc2 hc3 ?_
      refine lv_astore_n (lv' := [(3, .ref q9), (0, .ref (ad 150)), (1, .int x1), (2, .ref o)]) hx hb dL_pull_12 rfl hl (by decide) rfl (fun ls hl => ?_)
      refine lv_iconst (v := 1) hx hb dL_pull_13 (by decide) ?_
      exact hl_iw hx hb hr hlk hK hKo hP1 hPo1 hS (Nat.le_of_ble_eq_true rfl) (Nat.le_of_ble_eq_true rfl) (fun q => absurd q (by decide)) dL_pull_14
  · obtain ⟨rfl, h0⟩ := hw
    have hP1 : va_P D vwCl (cwW Y ad t.2.2) H1 := by rw [← ht]; exact hB.1
    have hPo1 : va_P D vwCl (oW cL o f) H1 := va_P.kept hPo (fun k q hq => hk1 q.1 (va_at.lt (hPo k q hq)) (by rw [oW_o hq]; exact hO_n ho))
    have hkc : kc = 0 := by
      rcases hk with ⟨_, q⟩ | ⟨q, _⟩
      · exact q
      · exact absurd (q.symm.trans h0) (by decide)
    subst hkc
    refine lv_i2l hx hb dL_pull_7 rfl ?_
    refine va_last (A := hA ad o s.heap.size) hx hb hKo (vP_c (hPo1 0 _ rfl) hP1) (vD_c (Or.inr rfl) (fun k q hq => by obtain ⟨i, hi, e⟩ := cW_q hq; rw [e]; exact ho.2 i hi) (⟨(cD (Y := Y) (μ := t.2.2) (sz := s.heap.size) hI).1 , fun k q hq => Or.inl ((cD (Y := Y) (μ := t.2.2) (sz := s.heap.size) hI).2 k q hq)⟩)) hS 0 0 rfl rfl (vp_in_nI (n := 0) (by omega) (by omega)) dL_pull_8 (fun H2 locs2 hP2 _ hS2 => ?_)
    refine lv_goto (tgt := 15) hx hb dL_pull_9 (by decide) ?_
    refine lv_iconst (v := 0) hx hb dL_pull_15 (by decide) ?_
    exact hl_iw (g := vp_updL f (Int32.toNatClampNeg 0) ((t.2.1).toInt64)) hx hb hr hlk hK hKo (fun k q hq => hP2 (k + 1) q hq) (fun k q hq => by cases k with | zero => cases hq; exact hP2 0 _ rfl | succ k => cases hq) hS2 (Nat.le_of_ble_eq_true rfl) (Nat.le_of_ble_eq_true rfl) (fun _ => if_pos rfl) dL_pull_16
set_option maxRecDepth 100000 in
set_option maxHeartbeats 4000000 in
theorem h6_set (l : Launch) {D : va_G} {Y : cYt} {ad : Nat → Nat} {mu : Nat → Nat → Int32} {cL : ClassId} {o : Nat} {f : Nat → Int64} (hI : cInj ad) (hl0 : l.stackTraces = false) (sz : Nat) (ho : hO ad o sz) (x1 : Int32) (x2 : Int32) {t : Int32 × Int32 × (Nat → Nat → Int32)} (hf : f4_set_0 x1 x2 mu = some t) {kc : Int32} (hk : t.1 = 0 ∧ kc = 0 ∨ t.1 = 1 ∧ kc = 1 ∨ t.1 = 2 ∧ kc = 2) : vx_Met l yL_set uL_set rmL (va_Pc [.ref (ad 150), .int x1, .int x2, .ref o] (fun U => U.heap.size = sz ∧ hZ ad o sz U ∧ hB D Y ad cL o mu f U)) (va_Qi (fun (r9 : Int32) (g : Nat → Int64) => r9 = kc ∧ (kc = 0 → g 0 = (t.2.1).toInt64)) (fun g t9 => hB D Y ad cL o t.2.2 g t9) (hA ad o sz)) (vx_X (fun (_ : Unit) => False) (fun _ _ _ => True) (hA ad o sz)) 3 18 (hA ad o sz) := by
  refine vx_ofWH (cc := cL_set) (maxL := 5) (ret := some .int) (hh := [(0, 10, 13, 13), (0, 10, 17, 15)]) (by decide) rfl ?_
  intro p e s m args below meth c s₁ B hml hv
  obtain ⟨rfl, hsz, ⟨hz, hn⟩, ⟨hP, hK⟩, hPo, hKo⟩ := hv
  subst hsz
  have hx := B.exec
  have hb := B.bytes
  have hr := B.returns
  have hlk := B.notSynchronized
  have hown : s.vm.findClass RL = some m.cls := findClass_of_methodNamed B.named
  have hts : ∀ w ∈ gw, w.before ([.ref (ad 150), .int x1, .int x2, .ref o] : List Value).toArray s = true := fun w h => atoms_spec (ws := uL_set) B.pre w (List.mem_cons_of_mem _ h)
  have hT : c.exceptionTable.toList = tableOf [(0, 10, 13, 13), (0, 10, 17, 15)] := vx_table (x := yL_set) B (atoms_spec (ws := uL_set) B.pre _ List.mem_cons_self)
  have S : CallFix p m c cL_set 5 s ([.ref (ad 150), .int x1, .int x2, .ref o] : List Value).toArray gw RL := ⟨hx, hb, hml, hown, hts⟩
  have hl := lv_entry ([.ref (ad 150), .int x1, .int x2, .ref o]) (n := 5) (Nat.le_of_ble_eq_true rfl)
  rw [lg_entry_eq]
  generalize (lg_sl ([.ref (ad 150), .int x1, .int x2, .ref o]) ++ List.replicate (5 - (lg_sl ([.ref (ad 150), .int x1, .int x2, .ref o])).length) Slot.unset).toArray = ls at hl ⊢
  have hl : lv_has ls 5 [(0, .ref (ad 150)), (1, .int x1), (2, .int x2), (3, .ref o)] := hl
  refine lv_aload_n hx hb dL_set_0 rfl (lv_at hl 3 rfl) ?_
  refine lv_iconst (v := 0) hx hb dL_set_1 (by decide) ?_
  refine lv_aload_n hx hb dL_set_2 rfl (lv_at hl 0 rfl) ?_
  refine lv_iload_n hx hb dL_set_3 rfl (lv_at hl 1 rfl) ?_
  refine lv_iload_n hx hb dL_set_4 rfl (lv_at hl 2 rfl) ?_
  refine vx_calli (vx_runV (As := [.int x1, .int x2]) (rest := [.int 0, .ref o]) S (c4_set l hI hl0 s.heap.size x1 x2 hf) (cwV 2 hts qL_39 rfl rfl rfl (by decide +kernel) ⟨Nat.le_of_ble_eq_true rfl, Nat.le_of_ble_eq_true rfl⟩) ⟨hc_bl, va_recv hK hP (ci := 4) (q0 := 150) rfl (cw_ate (by omega) rfl), fun U hU hW => ⟨rfl, by rw [hU], zx_at hz hW (fun a _ _ => by rw [hU]) (fun q h => Or.inl h), by rw [hU]; exact hP, va_K.moved hW.alike hK⟩⟩ rfl rfl hl.1 rfl (lv_room (Nat.le_of_ble_eq_true rfl)) dL_set_5 ⟨Nat.le_of_ble_eq_true rfl, Nat.le_of_ble_eq_true rfl⟩) (va_S.rf (A := hA ad o s.heap.size) (H0 := s.heap)) (fun q _ h => Or.inl h) (fun q h => Or.inl h) (fun q _ h => Or.inl h) (fun E ce q9 u t9 H1 locs1 ht hvm hpx hB hz1 hk1 hS hc1 hc2 hc3 => ?_) (fun r u t9 H1 locs1 ht hvm hw hB hz1 hk1 hS => ?_)
  · obtain ⟨hE, hB⟩ := hB
    have hP1 : va_P D vwCl (cwW Y ad t.2.2) H1 := by rw [← ht]; exact hB.1
    have hPo1 : va_P D vwCl (oW cL o f) H1 := va_P.kept hPo (fun k q hq => hk1 q.1 (va_at.lt (hPo k q hq)) (by rw [oW_o hq]; exact hO_n ho))
    rcases hk with ⟨h0, -⟩ | ⟨h0, rfl⟩ | ⟨h0, rfl⟩
    · exact absurd h0 hpx
    · have hE1 : E = "java/lang/IndexOutOfBoundsException" := by rw [hE, h0]; rfl
      subst hE1
      refine vx_catch hown [] ⟨0, 10, 13, 13⟩ [⟨0, 10, 17, 15⟩] (hT.trans rfl) (fun z h => nomatch h) (by decide) (by decide) (hts _ gclL_13) (va_Nw.use rfl hz.2.2.1) hc1 hc2 hc3 ?_
      refine lv_astore (lv' := [(4, .ref q9), (0, .ref (ad 150)), (1, .int x1), (2, .int x2), (3, .ref o)]) hx hb dL_set_13 hl (by decide) rfl (fun ls hl => ?_)
      refine lv_iconst (v := 1) hx hb dL_set_15 (by decide) ?_
      exact hl_iw hx hb hr hlk hK hKo hP1 hPo1 hS (Nat.le_of_ble_eq_true rfl) (Nat.le_of_ble_eq_true rfl) (fun q => absurd q (by decide)) dL_set_16
    · have hE1 : E = "java/lang/IllegalArgumentException" := by rw [hE, h0]; rfl
      subst hE1
      refine vx_catch hown [⟨0, 10, 13, 13⟩] ⟨0, 10, 17, 15⟩ [] (hT.trans rfl) (fun z h => by obtain rfl := List.mem_singleton.mp h; exact Or.inr ⟨by decide, "java/lang/IndexOutOfBoundsException", hts _ gclL_13, hn.1⟩) (by decide) (by decide) (hts _ gclL_15) (va_Nw.use rfl hz.2.2.2.1) hc1 hc2 hc3 ?_
      refine lv_astore (lv' := [(4, .ref q9), (0, .ref (ad 150)), (1, .int x1), (2, .int x2), (3, .ref o)]) hx hb dL_set_17 hl (by decide) rfl (fun ls hl => ?_)
      refine lv_iconst (v := 2) hx hb dL_set_19 (by decide) ?_
      exact hl_iw hx hb hr hlk hK hKo hP1 hPo1 hS (Nat.le_of_ble_eq_true rfl) (Nat.le_of_ble_eq_true rfl) (fun q => absurd q (by decide)) dL_set_20
  · obtain ⟨rfl, h0⟩ := hw
    have hP1 : va_P D vwCl (cwW Y ad t.2.2) H1 := by rw [← ht]; exact hB.1
    have hPo1 : va_P D vwCl (oW cL o f) H1 := va_P.kept hPo (fun k q hq => hk1 q.1 (va_at.lt (hPo k q hq)) (by rw [oW_o hq]; exact hO_n ho))
    have hkc : kc = 0 := by
      rcases hk with ⟨_, q⟩ | ⟨q, _⟩ | ⟨q, _⟩
      · exact q
      · exact absurd (q.symm.trans h0) (by decide)
      · exact absurd (q.symm.trans h0) (by decide)
    subst hkc
    refine lv_i2l hx hb dL_set_8 rfl ?_
    refine va_last (A := hA ad o s.heap.size) hx hb hKo (vP_c (hPo1 0 _ rfl) hP1) (vD_c (Or.inr rfl) (fun k q hq => by obtain ⟨i, hi, e⟩ := cW_q hq; rw [e]; exact ho.2 i hi) (⟨(cD (Y := Y) (μ := t.2.2) (sz := s.heap.size) hI).1 , fun k q hq => Or.inl ((cD (Y := Y) (μ := t.2.2) (sz := s.heap.size) hI).2 k q hq)⟩)) hS 0 0 rfl rfl (vp_in_nI (n := 0) (by omega) (by omega)) dL_set_9 (fun H2 locs2 hP2 _ hS2 => ?_)
    refine lv_goto (tgt := 21) hx hb dL_set_10 (by decide) ?_
    refine lv_iconst (v := 0) hx hb dL_set_21 (by decide) ?_
    exact hl_iw (g := vp_updL f (Int32.toNatClampNeg 0) ((t.2.1).toInt64)) hx hb hr hlk hK hKo (fun k q hq => hP2 (k + 1) q hq) (fun k q hq => by cases k with | zero => cases hq; exact hP2 0 _ rfl | succ k => cases hq) hS2 (Nat.le_of_ble_eq_true rfl) (Nat.le_of_ble_eq_true rfl) (fun _ => if_pos rfl) dL_set_22
set_option maxRecDepth 100000 in
set_option maxHeartbeats 4000000 in
theorem h6_run (l : Launch) {D : va_G} {Y : cYt} {ad : Nat → Nat} {mu : Nat → Nat → Int32} {cL : ClassId} {o : Nat} {f : Nat → Int64} (hI : cInj ad) (hl0 : l.stackTraces = false) (sz : Nat) (ho : hO ad o sz) (x1 : Int32) {t : Int32 × Int32 × (Nat → Nat → Int32)} (hf : f4_run_0 x1 mu = some t) {kc : Int32} (hk : t.1 = 0 ∧ kc = 0 ∨ t.1 = 2 ∧ kc = 1) : vx_Met l yL_run uL_run rmL (va_Pc [.ref (ad 150), .int x1, .ref o] (fun U => U.heap.size = sz ∧ hZ ad o sz U ∧ hB D Y ad cL o mu f U)) (va_Qi (fun (r9 : Int32) (g : Nat → Int64) => r9 = kc ∧ (kc = 0 → g 0 = (t.2.1).toInt64)) (fun g t9 => hB D Y ad cL o t.2.2 g t9) (hA ad o sz)) (vx_X (fun (_ : Unit) => False) (fun _ _ _ => True) (hA ad o sz)) 3 18 (hA ad o sz) := by
  refine vx_ofWH (cc := cL_run) (maxL := 4) (ret := some .int) (hh := [(0, 9, 12, 15)]) (by decide) rfl ?_
  intro p e s m args below meth c s₁ B hml hv
  obtain ⟨rfl, hsz, ⟨hz, hn⟩, ⟨hP, hK⟩, hPo, hKo⟩ := hv
  subst hsz
  have hx := B.exec
  have hb := B.bytes
  have hr := B.returns
  have hlk := B.notSynchronized
  have hown : s.vm.findClass RL = some m.cls := findClass_of_methodNamed B.named
  have hts : ∀ w ∈ gw, w.before ([.ref (ad 150), .int x1, .ref o] : List Value).toArray s = true := fun w h => atoms_spec (ws := uL_run) B.pre w (List.mem_cons_of_mem _ h)
  have hT : c.exceptionTable.toList = tableOf [(0, 9, 12, 15)] := vx_table (x := yL_run) B (atoms_spec (ws := uL_run) B.pre _ List.mem_cons_self)
  have S : CallFix p m c cL_run 4 s ([.ref (ad 150), .int x1, .ref o] : List Value).toArray gw RL := ⟨hx, hb, hml, hown, hts⟩
  have hl := lv_entry ([.ref (ad 150), .int x1, .ref o]) (n := 4) (Nat.le_of_ble_eq_true rfl)
  rw [lg_entry_eq]
  generalize (lg_sl ([.ref (ad 150), .int x1, .ref o]) ++ List.replicate (4 - (lg_sl ([.ref (ad 150), .int x1, .ref o])).length) Slot.unset).toArray = ls at hl ⊢
  have hl : lv_has ls 4 [(0, .ref (ad 150)), (1, .int x1), (2, .ref o)] := hl
  refine lv_aload_n hx hb dL_run_0 rfl (lv_at hl 2 rfl) ?_
  refine lv_iconst (v := 0) hx hb dL_run_1 (by decide) ?_
  refine lv_aload_n hx hb dL_run_2 rfl (lv_at hl 0 rfl) ?_
  refine lv_iload_n hx hb dL_run_3 rfl (lv_at hl 1 rfl) ?_
  refine vx_calli (vx_runV (As := [.int x1]) (rest := [.int 0, .ref o]) S (c4_run l hI hl0 s.heap.size x1 hf) (cwV 1 hts qL_42 rfl rfl rfl (by decide +kernel) ⟨Nat.le_of_ble_eq_true rfl, Nat.le_of_ble_eq_true rfl⟩) ⟨hc_bl, va_recv hK hP (ci := 4) (q0 := 150) rfl (cw_ate (by omega) rfl), fun U hU hW => ⟨rfl, by rw [hU], zx_at hz hW (fun a _ _ => by rw [hU]) (fun q h => Or.inl h), by rw [hU]; exact hP, va_K.moved hW.alike hK⟩⟩ rfl rfl hl.1 rfl (lv_room (Nat.le_of_ble_eq_true rfl)) dL_run_4 ⟨Nat.le_of_ble_eq_true rfl, Nat.le_of_ble_eq_true rfl⟩) (va_S.rf (A := hA ad o s.heap.size) (H0 := s.heap)) (fun q _ h => Or.inl h) (fun q h => Or.inl h) (fun q _ h => Or.inl h) (fun E ce q9 u t9 H1 locs1 ht hvm hpx hB hz1 hk1 hS hc1 hc2 hc3 => ?_) (fun r u t9 H1 locs1 ht hvm hw hB hz1 hk1 hS => ?_)
  · obtain ⟨hE, hB⟩ := hB
    have hP1 : va_P D vwCl (cwW Y ad t.2.2) H1 := by rw [← ht]; exact hB.1
    have hPo1 : va_P D vwCl (oW cL o f) H1 := va_P.kept hPo (fun k q hq => hk1 q.1 (va_at.lt (hPo k q hq)) (by rw [oW_o hq]; exact hO_n ho))
    rcases hk with ⟨h0, -⟩ | ⟨h0, rfl⟩
    · exact absurd h0 hpx
    · have hE1 : E = "java/lang/IllegalArgumentException" := by rw [hE, h0]; rfl
      subst hE1
      refine vx_catch hown [] ⟨0, 9, 12, 15⟩ [] (hT.trans rfl) (fun z h => nomatch h) (by decide) (by decide) (hts _ gclL_15) (va_Nw.use rfl hz.2.2.2.1) hc1 hc2 hc3 ?_
      refine lv_astore_n (lv' := [(3, .ref q9), (0, .ref (ad 150)), (1, .int x1), (2, .ref o)]) hx hb dL_run_12 rfl hl (by decide) rfl (fun ls hl => ?_)
      refine lv_iconst (v := 1) hx hb dL_run_13 (by decide) ?_
      exact hl_iw hx hb hr hlk hK hKo hP1 hPo1 hS (Nat.le_of_ble_eq_true rfl) (Nat.le_of_ble_eq_true rfl) (fun q => absurd q (by decide)) dL_run_14
  · obtain ⟨rfl, h0⟩ := hw
    have hP1 : va_P D vwCl (cwW Y ad t.2.2) H1 := by rw [← ht]; exact hB.1
    have hPo1 : va_P D vwCl (oW cL o f) H1 := va_P.kept hPo (fun k q hq => hk1 q.1 (va_at.lt (hPo k q hq)) (by rw [oW_o hq]; exact hO_n ho))
    have hkc : kc = 0 := by
      rcases hk with ⟨_, q⟩ | ⟨q, _⟩
      · exact q
      · exact absurd (q.symm.trans h0) (by decide)
    subst hkc
    refine lv_i2l hx hb dL_run_7 rfl ?_
    refine va_last (A := hA ad o s.heap.size) hx hb hKo (vP_c (hPo1 0 _ rfl) hP1) (vD_c (Or.inr rfl) (fun k q hq => by obtain ⟨i, hi, e⟩ := cW_q hq; rw [e]; exact ho.2 i hi) (⟨(cD (Y := Y) (μ := t.2.2) (sz := s.heap.size) hI).1 , fun k q hq => Or.inl ((cD (Y := Y) (μ := t.2.2) (sz := s.heap.size) hI).2 k q hq)⟩)) hS 0 0 rfl rfl (vp_in_nI (n := 0) (by omega) (by omega)) dL_run_8 (fun H2 locs2 hP2 _ hS2 => ?_)
    refine lv_goto (tgt := 15) hx hb dL_run_9 (by decide) ?_
    refine lv_iconst (v := 0) hx hb dL_run_15 (by decide) ?_
    exact hl_iw (g := vp_updL f (Int32.toNatClampNeg 0) ((t.2.1).toInt64)) hx hb hr hlk hK hKo (fun k q hq => hP2 (k + 1) q hq) (fun k q hq => by cases k with | zero => cases hq; exact hP2 0 _ rfl | succ k => cases hq) hS2 (Nat.le_of_ble_eq_true rfl) (Nat.le_of_ble_eq_true rfl) (fun _ => if_pos rfl) dL_run_16
set_option maxRecDepth 100000 in
set_option maxHeartbeats 4000000 in
theorem h6_append (l : Launch) {D : va_G} {Y : cYt} {ad : Nat → Nat} {mu : Nat → Nat → Int32} {cL : ClassId} {o : Nat} {f : Nat → Int64} (hI : cInj ad) (hl0 : l.stackTraces = false) (sz : Nat) (ho : hO ad o sz) (x1 : Int32) {t : Int32 × Int32 × (Nat → Nat → Int32)} (hf : f4_append_0 x1 mu = some t) {kc : Int32} (hk : t.1 = 0 ∧ kc = 0 ∨ t.1 = 2 ∧ kc = 1 ∨ t.1 = 3 ∧ kc = 2) : vx_Met l yL_append uL_append rmL (va_Pc [.ref (ad 150), .int x1, .ref o] (fun U => U.heap.size = sz ∧ hZ ad o sz U ∧ hB D Y ad cL o mu f U)) (va_Qi (fun (r9 : Int32) (g : Nat → Int64) => r9 = kc ∧ (kc = 0 → g 0 = (t.2.1).toInt64)) (fun g t9 => hB D Y ad cL o t.2.2 g t9) (hA ad o sz)) (vx_X (fun (_ : Unit) => False) (fun _ _ _ => True) (hA ad o sz)) 3 18 (hA ad o sz) := by
  refine vx_ofWH (cc := cL_append) (maxL := 4) (ret := some .int) (hh := [(0, 9, 12, 15), (0, 9, 15, 20)]) (by decide) rfl ?_
  intro p e s m args below meth c s₁ B hml hv
  obtain ⟨rfl, hsz, ⟨hz, hn⟩, ⟨hP, hK⟩, hPo, hKo⟩ := hv
  subst hsz
  have hx := B.exec
  have hb := B.bytes
  have hr := B.returns
  have hlk := B.notSynchronized
  have hown : s.vm.findClass RL = some m.cls := findClass_of_methodNamed B.named
  have hts : ∀ w ∈ gw, w.before ([.ref (ad 150), .int x1, .ref o] : List Value).toArray s = true := fun w h => atoms_spec (ws := uL_append) B.pre w (List.mem_cons_of_mem _ h)
  have hT : c.exceptionTable.toList = tableOf [(0, 9, 12, 15), (0, 9, 15, 20)] := vx_table (x := yL_append) B (atoms_spec (ws := uL_append) B.pre _ List.mem_cons_self)
  have S : CallFix p m c cL_append 4 s ([.ref (ad 150), .int x1, .ref o] : List Value).toArray gw RL := ⟨hx, hb, hml, hown, hts⟩
  have hl := lv_entry ([.ref (ad 150), .int x1, .ref o]) (n := 4) (Nat.le_of_ble_eq_true rfl)
  rw [lg_entry_eq]
  generalize (lg_sl ([.ref (ad 150), .int x1, .ref o]) ++ List.replicate (4 - (lg_sl ([.ref (ad 150), .int x1, .ref o])).length) Slot.unset).toArray = ls at hl ⊢
  have hl : lv_has ls 4 [(0, .ref (ad 150)), (1, .int x1), (2, .ref o)] := hl
  refine lv_aload_n hx hb dL_append_0 rfl (lv_at hl 2 rfl) ?_
  refine lv_iconst (v := 0) hx hb dL_append_1 (by decide) ?_
  refine lv_aload_n hx hb dL_append_2 rfl (lv_at hl 0 rfl) ?_
  refine lv_iload_n hx hb dL_append_3 rfl (lv_at hl 1 rfl) ?_
  refine vx_calli (vx_runV (As := [.int x1]) (rest := [.int 0, .ref o]) S (c4_append l hI hl0 s.heap.size x1 hf) (cwV 1 hts qL_45 rfl rfl rfl (by decide +kernel) ⟨Nat.le_of_ble_eq_true rfl, Nat.le_of_ble_eq_true rfl⟩) ⟨hc_bl, va_recv hK hP (ci := 4) (q0 := 150) rfl (cw_ate (by omega) rfl), fun U hU hW => ⟨rfl, by rw [hU], zx_at hz hW (fun a _ _ => by rw [hU]) (fun q h => Or.inl h), by rw [hU]; exact hP, va_K.moved hW.alike hK⟩⟩ rfl rfl hl.1 rfl (lv_room (Nat.le_of_ble_eq_true rfl)) dL_append_4 ⟨Nat.le_of_ble_eq_true rfl, Nat.le_of_ble_eq_true rfl⟩) (va_S.rf (A := hA ad o s.heap.size) (H0 := s.heap)) (fun q _ h => Or.inl h) (fun q h => Or.inl h) (fun q _ h => Or.inl h) (fun E ce q9 u t9 H1 locs1 ht hvm hpx hB hz1 hk1 hS hc1 hc2 hc3 => ?_) (fun r u t9 H1 locs1 ht hvm hw hB hz1 hk1 hS => ?_)
  · obtain ⟨hE, hB⟩ := hB
    have hP1 : va_P D vwCl (cwW Y ad t.2.2) H1 := by rw [← ht]; exact hB.1
    have hPo1 : va_P D vwCl (oW cL o f) H1 := va_P.kept hPo (fun k q hq => hk1 q.1 (va_at.lt (hPo k q hq)) (by rw [oW_o hq]; exact hO_n ho))
    rcases hk with ⟨h0, -⟩ | ⟨h0, rfl⟩ | ⟨h0, rfl⟩
    · exact absurd h0 hpx
    · have hE1 : E = "java/lang/IllegalArgumentException" := by rw [hE, h0]; rfl
      subst hE1
      refine vx_catch hown [] ⟨0, 9, 12, 15⟩ [⟨0, 9, 15, 20⟩] (hT.trans rfl) (fun z h => nomatch h) (by decide) (by decide) (hts _ gclL_15) (va_Nw.use rfl hz.2.2.2.1) hc1 hc2 hc3 ?_
      refine lv_astore_n (lv' := [(3, .ref q9), (0, .ref (ad 150)), (1, .int x1), (2, .ref o)]) hx hb dL_append_12 rfl hl (by decide) rfl (fun ls hl => ?_)
      refine lv_iconst (v := 1) hx hb dL_append_13 (by decide) ?_
      exact hl_iw hx hb hr hlk hK hKo hP1 hPo1 hS (Nat.le_of_ble_eq_true rfl) (Nat.le_of_ble_eq_true rfl) (fun q => absurd q (by decide)) dL_append_14
    · have hE1 : E = "java/lang/IllegalStateException" := by rw [hE, h0]; rfl
      subst hE1
      refine vx_catch hown [⟨0, 9, 12, 15⟩] ⟨0, 9, 15, 20⟩ [] (hT.trans rfl) (fun z h => by obtain rfl := List.mem_singleton.mp h; exact Or.inr ⟨by decide, "java/lang/IllegalArgumentException", hts _ gclL_15, hn.2.2⟩) (by decide) (by decide) (hts _ gclL_20) (va_Nw.use rfl hz.2.2.2.2.1) hc1 hc2 hc3 ?_
      refine lv_astore_n (lv' := [(3, .ref q9), (0, .ref (ad 150)), (1, .int x1), (2, .ref o)]) hx hb dL_append_15 rfl hl (by decide) rfl (fun ls hl => ?_)
      refine lv_iconst (v := 2) hx hb dL_append_16 (by decide) ?_
      exact hl_iw hx hb hr hlk hK hKo hP1 hPo1 hS (Nat.le_of_ble_eq_true rfl) (Nat.le_of_ble_eq_true rfl) (fun q => absurd q (by decide)) dL_append_17
  · obtain ⟨rfl, h0⟩ := hw
    have hP1 : va_P D vwCl (cwW Y ad t.2.2) H1 := by rw [← ht]; exact hB.1
    have hPo1 : va_P D vwCl (oW cL o f) H1 := va_P.kept hPo (fun k q hq => hk1 q.1 (va_at.lt (hPo k q hq)) (by rw [oW_o hq]; exact hO_n ho))
    have hkc : kc = 0 := by
      rcases hk with ⟨_, q⟩ | ⟨q, _⟩ | ⟨q, _⟩
      · exact q
      · exact absurd (q.symm.trans h0) (by decide)
      · exact absurd (q.symm.trans h0) (by decide)
    subst hkc
    refine lv_i2l hx hb dL_append_7 rfl ?_
    refine va_last (A := hA ad o s.heap.size) hx hb hKo (vP_c (hPo1 0 _ rfl) hP1) (vD_c (Or.inr rfl) (fun k q hq => by obtain ⟨i, hi, e⟩ := cW_q hq; rw [e]; exact ho.2 i hi) (⟨(cD (Y := Y) (μ := t.2.2) (sz := s.heap.size) hI).1 , fun k q hq => Or.inl ((cD (Y := Y) (μ := t.2.2) (sz := s.heap.size) hI).2 k q hq)⟩)) hS 0 0 rfl rfl (vp_in_nI (n := 0) (by omega) (by omega)) dL_append_8 (fun H2 locs2 hP2 _ hS2 => ?_)
    refine lv_goto (tgt := 18) hx hb dL_append_9 (by decide) ?_
    refine lv_iconst (v := 0) hx hb dL_append_18 (by decide) ?_
    exact hl_iw (g := vp_updL f (Int32.toNatClampNeg 0) ((t.2.1).toInt64)) hx hb hr hlk hK hKo (fun k q hq => hP2 (k + 1) q hq) (fun k q hq => by cases k with | zero => cases hq; exact hP2 0 _ rfl | succ k => cases hq) hS2 (Nat.le_of_ble_eq_true rfl) (Nat.le_of_ble_eq_true rfl) (fun _ => if_pos rfl) dL_append_19
set_option maxRecDepth 100000 in
set_option maxHeartbeats 4000000 in
theorem h6_execute (l : Launch) {D : va_G} {Y : cYt} {ad : Nat → Nat} {mu : Nat → Nat → Int32} {cL : ClassId} {o : Nat} {f : Nat → Int64} (hI : cInj ad) (hl0 : l.stackTraces = false) (sz : Nat) (ho : hO ad o sz)  {t : Int32 × Int32 × (Nat → Nat → Int32)} (hf : f4_execute_0 mu = some t) {kc : Int32} (hk : t.1 = 0 ∧ kc = 0 ∨ t.1 = 2 ∧ kc = 1) : vx_Met l yL_execute uL_execute rmL (va_Pc [.ref (ad 150), .ref o] (fun U => U.heap.size = sz ∧ hZ ad o sz U ∧ hB D Y ad cL o mu f U)) (va_Qi (fun (r9 : Int32) (g : Nat → Int64) => r9 = kc ∧ (kc = 0 → g 0 = (t.2.1).toInt64)) (fun g t9 => hB D Y ad cL o t.2.2 g t9) (hA ad o sz)) (vx_X (fun (_ : Unit) => False) (fun _ _ _ => True) (hA ad o sz)) 3 18 (hA ad o sz) := by
  refine vx_ofWH (cc := cL_execute) (maxL := 3) (ret := some .int) (hh := [(0, 8, 11, 15)]) (by decide) rfl ?_
  intro p e s m args below meth c s₁ B hml hv
  obtain ⟨rfl, hsz, ⟨hz, hn⟩, ⟨hP, hK⟩, hPo, hKo⟩ := hv
  subst hsz
  have hx := B.exec
  have hb := B.bytes
  have hr := B.returns
  have hlk := B.notSynchronized
  have hown : s.vm.findClass RL = some m.cls := findClass_of_methodNamed B.named
  have hts : ∀ w ∈ gw, w.before ([.ref (ad 150), .ref o] : List Value).toArray s = true := fun w h => atoms_spec (ws := uL_execute) B.pre w (List.mem_cons_of_mem _ h)
  have hT : c.exceptionTable.toList = tableOf [(0, 8, 11, 15)] := vx_table (x := yL_execute) B (atoms_spec (ws := uL_execute) B.pre _ List.mem_cons_self)
  have S : CallFix p m c cL_execute 3 s ([.ref (ad 150), .ref o] : List Value).toArray gw RL := ⟨hx, hb, hml, hown, hts⟩
  have hl := lv_entry ([.ref (ad 150), .ref o]) (n := 3) (Nat.le_of_ble_eq_true rfl)
  rw [lg_entry_eq]
  generalize (lg_sl ([.ref (ad 150), .ref o]) ++ List.replicate (3 - (lg_sl ([.ref (ad 150), .ref o])).length) Slot.unset).toArray = ls at hl ⊢
  have hl : lv_has ls 3 [(0, .ref (ad 150)), (1, .ref o)] := hl
  refine lv_aload_n hx hb dL_execute_0 rfl (lv_at hl 1 rfl) ?_
  refine lv_iconst (v := 0) hx hb dL_execute_1 (by decide) ?_
  refine lv_aload_n hx hb dL_execute_2 rfl (lv_at hl 0 rfl) ?_
  refine vx_calli (vx_runV (As := []) (rest := [.int 0, .ref o]) S (c4_execute l hI hl0 s.heap.size  hf) (cwV 0 hts qL_48 rfl rfl rfl (by decide +kernel) ⟨Nat.le_of_ble_eq_true rfl, Nat.le_of_ble_eq_true rfl⟩) ⟨hc_bl, va_recv hK hP (ci := 4) (q0 := 150) rfl (cw_ate (by omega) rfl), fun U hU hW => ⟨rfl, by rw [hU], zx_at hz hW (fun a _ _ => by rw [hU]) (fun q h => Or.inl h), by rw [hU]; exact hP, va_K.moved hW.alike hK⟩⟩ rfl rfl hl.1 rfl (lv_room (Nat.le_of_ble_eq_true rfl)) dL_execute_3 ⟨Nat.le_of_ble_eq_true rfl, Nat.le_of_ble_eq_true rfl⟩) (va_S.rf (A := hA ad o s.heap.size) (H0 := s.heap)) (fun q _ h => Or.inl h) (fun q h => Or.inl h) (fun q _ h => Or.inl h) (fun E ce q9 u t9 H1 locs1 ht hvm hpx hB hz1 hk1 hS hc1 hc2 hc3 => ?_) (fun r u t9 H1 locs1 ht hvm hw hB hz1 hk1 hS => ?_)
  · obtain ⟨hE, hB⟩ := hB
    have hP1 : va_P D vwCl (cwW Y ad t.2.2) H1 := by rw [← ht]; exact hB.1
    have hPo1 : va_P D vwCl (oW cL o f) H1 := va_P.kept hPo (fun k q hq => hk1 q.1 (va_at.lt (hPo k q hq)) (by rw [oW_o hq]; exact hO_n ho))
    rcases hk with ⟨h0, -⟩ | ⟨h0, rfl⟩
    · exact absurd h0 hpx
    · have hE1 : E = "java/lang/IllegalArgumentException" := by rw [hE, h0]; rfl
      subst hE1
      refine vx_catch hown [] ⟨0, 8, 11, 15⟩ [] (hT.trans rfl) (fun z h => nomatch h) (by decide) (by decide) (hts _ gclL_15) (va_Nw.use rfl hz.2.2.2.1) hc1 hc2 hc3 ?_
      refine lv_astore_n (lv' := [(2, .ref q9), (0, .ref (ad 150)), (1, .ref o)]) hx hb dL_execute_11 rfl hl (by decide) rfl (fun ls hl => ?_)
      refine lv_iconst (v := 1) hx hb dL_execute_12 (by decide) ?_
      exact hl_iw hx hb hr hlk hK hKo hP1 hPo1 hS (Nat.le_of_ble_eq_true rfl) (Nat.le_of_ble_eq_true rfl) (fun q => absurd q (by decide)) dL_execute_13
  · obtain ⟨rfl, h0⟩ := hw
    have hP1 : va_P D vwCl (cwW Y ad t.2.2) H1 := by rw [← ht]; exact hB.1
    have hPo1 : va_P D vwCl (oW cL o f) H1 := va_P.kept hPo (fun k q hq => hk1 q.1 (va_at.lt (hPo k q hq)) (by rw [oW_o hq]; exact hO_n ho))
    have hkc : kc = 0 := by
      rcases hk with ⟨_, q⟩ | ⟨q, _⟩
      · exact q
      · exact absurd (q.symm.trans h0) (by decide)
    subst hkc
    refine lv_i2l hx hb dL_execute_6 rfl ?_
    refine va_last (A := hA ad o s.heap.size) hx hb hKo (vP_c (hPo1 0 _ rfl) hP1) (vD_c (Or.inr rfl) (fun k q hq => by obtain ⟨i, hi, e⟩ := cW_q hq; rw [e]; exact ho.2 i hi) (⟨(cD (Y := Y) (μ := t.2.2) (sz := s.heap.size) hI).1 , fun k q hq => Or.inl ((cD (Y := Y) (μ := t.2.2) (sz := s.heap.size) hI).2 k q hq)⟩)) hS 0 0 rfl rfl (vp_in_nI (n := 0) (by omega) (by omega)) dL_execute_7 (fun H2 locs2 hP2 _ hS2 => ?_)
    refine lv_goto (tgt := 14) hx hb dL_execute_8 (by decide) ?_
    refine lv_iconst (v := 0) hx hb dL_execute_14 (by decide) ?_
    exact hl_iw (g := vp_updL f (Int32.toNatClampNeg 0) ((t.2.1).toInt64)) hx hb hr hlk hK hKo (fun k q hq => hP2 (k + 1) q hq) (fun k q hq => by cases k with | zero => cases hq; exact hP2 0 _ rfl | succ k => cases hq) hS2 (Nat.le_of_ble_eq_true rfl) (Nat.le_of_ble_eq_true rfl) (fun _ => if_pos rfl) dL_execute_15
set_option maxRecDepth 100000 in
set_option maxHeartbeats 4000000 in
theorem h6_undo (l : Launch) {D : va_G} {Y : cYt} {ad : Nat → Nat} {mu : Nat → Nat → Int32} {cL : ClassId} {o : Nat} {f : Nat → Int64} (hI : cInj ad) (hl0 : l.stackTraces = false) (sz : Nat) (ho : hO ad o sz)  {t : Int32 × Int32 × (Nat → Nat → Int32)} (hf : f4_undo_0 mu = some t) {kc : Int32} (hk : t.1 = 0 ∧ kc = 0 ∨ t.1 = 3 ∧ kc = 1) : vx_Met l yL_undo uL_undo rmL (va_Pc [.ref (ad 150), .ref o] (fun U => U.heap.size = sz ∧ hZ ad o sz U ∧ hB D Y ad cL o mu f U)) (va_Qi (fun (r9 : Int32) (g : Nat → Int64) => r9 = kc ∧ (kc = 0 → g 0 = (t.2.1).toInt64)) (fun g t9 => hB D Y ad cL o t.2.2 g t9) (hA ad o sz)) (vx_X (fun (_ : Unit) => False) (fun _ _ _ => True) (hA ad o sz)) 3 18 (hA ad o sz) := by
  refine vx_ofWH (cc := cL_undo) (maxL := 3) (ret := some .int) (hh := [(0, 8, 11, 20)]) (by decide) rfl ?_
  intro p e s m args below meth c s₁ B hml hv
  obtain ⟨rfl, hsz, ⟨hz, hn⟩, ⟨hP, hK⟩, hPo, hKo⟩ := hv
  subst hsz
  have hx := B.exec
  have hb := B.bytes
  have hr := B.returns
  have hlk := B.notSynchronized
  have hown : s.vm.findClass RL = some m.cls := findClass_of_methodNamed B.named
  have hts : ∀ w ∈ gw, w.before ([.ref (ad 150), .ref o] : List Value).toArray s = true := fun w h => atoms_spec (ws := uL_undo) B.pre w (List.mem_cons_of_mem _ h)
  have hT : c.exceptionTable.toList = tableOf [(0, 8, 11, 20)] := vx_table (x := yL_undo) B (atoms_spec (ws := uL_undo) B.pre _ List.mem_cons_self)
  have S : CallFix p m c cL_undo 3 s ([.ref (ad 150), .ref o] : List Value).toArray gw RL := ⟨hx, hb, hml, hown, hts⟩
  have hl := lv_entry ([.ref (ad 150), .ref o]) (n := 3) (Nat.le_of_ble_eq_true rfl)
  rw [lg_entry_eq]
  generalize (lg_sl ([.ref (ad 150), .ref o]) ++ List.replicate (3 - (lg_sl ([.ref (ad 150), .ref o])).length) Slot.unset).toArray = ls at hl ⊢
  have hl : lv_has ls 3 [(0, .ref (ad 150)), (1, .ref o)] := hl
  refine lv_aload_n hx hb dL_undo_0 rfl (lv_at hl 1 rfl) ?_
  refine lv_iconst (v := 0) hx hb dL_undo_1 (by decide) ?_
  refine lv_aload_n hx hb dL_undo_2 rfl (lv_at hl 0 rfl) ?_
  refine vx_calli (vx_runV (As := []) (rest := [.int 0, .ref o]) S (c4_undo l hI hl0 s.heap.size  hf) (cwV 0 hts qL_51 rfl rfl rfl (by decide +kernel) ⟨Nat.le_of_ble_eq_true rfl, Nat.le_of_ble_eq_true rfl⟩) ⟨hc_bl, va_recv hK hP (ci := 4) (q0 := 150) rfl (cw_ate (by omega) rfl), fun U hU hW => ⟨rfl, by rw [hU], zx_at hz hW (fun a _ _ => by rw [hU]) (fun q h => Or.inl h), by rw [hU]; exact hP, va_K.moved hW.alike hK⟩⟩ rfl rfl hl.1 rfl (lv_room (Nat.le_of_ble_eq_true rfl)) dL_undo_3 ⟨Nat.le_of_ble_eq_true rfl, Nat.le_of_ble_eq_true rfl⟩) (va_S.rf (A := hA ad o s.heap.size) (H0 := s.heap)) (fun q _ h => Or.inl h) (fun q h => Or.inl h) (fun q _ h => Or.inl h) (fun E ce q9 u t9 H1 locs1 ht hvm hpx hB hz1 hk1 hS hc1 hc2 hc3 => ?_) (fun r u t9 H1 locs1 ht hvm hw hB hz1 hk1 hS => ?_)
  · obtain ⟨hE, hB⟩ := hB
    have hP1 : va_P D vwCl (cwW Y ad t.2.2) H1 := by rw [← ht]; exact hB.1
    have hPo1 : va_P D vwCl (oW cL o f) H1 := va_P.kept hPo (fun k q hq => hk1 q.1 (va_at.lt (hPo k q hq)) (by rw [oW_o hq]; exact hO_n ho))
    rcases hk with ⟨h0, -⟩ | ⟨h0, rfl⟩
    · exact absurd h0 hpx
    · have hE1 : E = "java/lang/IllegalStateException" := by rw [hE, h0]; rfl
      subst hE1
      refine vx_catch hown [] ⟨0, 8, 11, 20⟩ [] (hT.trans rfl) (fun z h => nomatch h) (by decide) (by decide) (hts _ gclL_20) (va_Nw.use rfl hz.2.2.2.2.1) hc1 hc2 hc3 ?_
      refine lv_astore_n (lv' := [(2, .ref q9), (0, .ref (ad 150)), (1, .ref o)]) hx hb dL_undo_11 rfl hl (by decide) rfl (fun ls hl => ?_)
      refine lv_iconst (v := 1) hx hb dL_undo_12 (by decide) ?_
      exact hl_iw hx hb hr hlk hK hKo hP1 hPo1 hS (Nat.le_of_ble_eq_true rfl) (Nat.le_of_ble_eq_true rfl) (fun q => absurd q (by decide)) dL_undo_13
  · obtain ⟨rfl, h0⟩ := hw
    have hP1 : va_P D vwCl (cwW Y ad t.2.2) H1 := by rw [← ht]; exact hB.1
    have hPo1 : va_P D vwCl (oW cL o f) H1 := va_P.kept hPo (fun k q hq => hk1 q.1 (va_at.lt (hPo k q hq)) (by rw [oW_o hq]; exact hO_n ho))
    have hkc : kc = 0 := by
      rcases hk with ⟨_, q⟩ | ⟨q, _⟩
      · exact q
      · exact absurd (q.symm.trans h0) (by decide)
    subst hkc
    refine lv_i2l hx hb dL_undo_6 rfl ?_
    refine va_last (A := hA ad o s.heap.size) hx hb hKo (vP_c (hPo1 0 _ rfl) hP1) (vD_c (Or.inr rfl) (fun k q hq => by obtain ⟨i, hi, e⟩ := cW_q hq; rw [e]; exact ho.2 i hi) (⟨(cD (Y := Y) (μ := t.2.2) (sz := s.heap.size) hI).1 , fun k q hq => Or.inl ((cD (Y := Y) (μ := t.2.2) (sz := s.heap.size) hI).2 k q hq)⟩)) hS 0 0 rfl rfl (vp_in_nI (n := 0) (by omega) (by omega)) dL_undo_7 (fun H2 locs2 hP2 _ hS2 => ?_)
    refine lv_goto (tgt := 14) hx hb dL_undo_8 (by decide) ?_
    refine lv_iconst (v := 0) hx hb dL_undo_14 (by decide) ?_
    exact hl_iw (g := vp_updL f (Int32.toNatClampNeg 0) ((t.2.1).toInt64)) hx hb hr hlk hK hKo (fun k q hq => hP2 (k + 1) q hq) (fun k q hq => by cases k with | zero => cases hq; exact hP2 0 _ rfl | succ k => cases hq) hS2 (Nat.le_of_ble_eq_true rfl) (Nat.le_of_ble_eq_true rfl) (fun _ => if_pos rfl) dL_undo_15
set_option maxRecDepth 100000 in
set_option maxHeartbeats 4000000 in
theorem h6_keep (l : Launch) {D : va_G} {Y : cYt} {ad : Nat → Nat} {mu : Nat → Nat → Int32} {cL : ClassId} {o : Nat} {f : Nat → Int64} (hI : cInj ad) (hl0 : l.stackTraces = false) (sz : Nat) (ho : hO ad o sz) (x1 : Int32) {t : Int32 × Int32 × (Nat → Nat → Int32)} (hf : f4_keep_0 x1 mu = some t) {kc : Int32} (hk : t.1 = 0 ∧ kc = 0 ∨ t.1 = 2 ∧ kc = 1) : vx_Met l yL_keep uL_keep rmL (va_Pc [.ref (ad 150), .int x1, .ref o] (fun U => U.heap.size = sz ∧ hZ ad o sz U ∧ hB D Y ad cL o mu f U)) (va_Qi (fun (r9 : Int32) (g : Nat → Int64) => r9 = kc ∧ (kc = 0 → g 0 = (t.2.1).toInt64)) (fun g t9 => hB D Y ad cL o t.2.2 g t9) (hA ad o sz)) (vx_X (fun (_ : Unit) => False) (fun _ _ _ => True) (hA ad o sz)) 3 18 (hA ad o sz) := by
  refine vx_ofWH (cc := cL_keep) (maxL := 4) (ret := some .int) (hh := [(0, 9, 12, 15)]) (by decide) rfl ?_
  intro p e s m args below meth c s₁ B hml hv
  obtain ⟨rfl, hsz, ⟨hz, hn⟩, ⟨hP, hK⟩, hPo, hKo⟩ := hv
  subst hsz
  have hx := B.exec
  have hb := B.bytes
  have hr := B.returns
  have hlk := B.notSynchronized
  have hown : s.vm.findClass RL = some m.cls := findClass_of_methodNamed B.named
  have hts : ∀ w ∈ gw, w.before ([.ref (ad 150), .int x1, .ref o] : List Value).toArray s = true := fun w h => atoms_spec (ws := uL_keep) B.pre w (List.mem_cons_of_mem _ h)
  have hT : c.exceptionTable.toList = tableOf [(0, 9, 12, 15)] := vx_table (x := yL_keep) B (atoms_spec (ws := uL_keep) B.pre _ List.mem_cons_self)
  have S : CallFix p m c cL_keep 4 s ([.ref (ad 150), .int x1, .ref o] : List Value).toArray gw RL := ⟨hx, hb, hml, hown, hts⟩
  have hl := lv_entry ([.ref (ad 150), .int x1, .ref o]) (n := 4) (Nat.le_of_ble_eq_true rfl)
  rw [lg_entry_eq]
  generalize (lg_sl ([.ref (ad 150), .int x1, .ref o]) ++ List.replicate (4 - (lg_sl ([.ref (ad 150), .int x1, .ref o])).length) Slot.unset).toArray = ls at hl ⊢
  have hl : lv_has ls 4 [(0, .ref (ad 150)), (1, .int x1), (2, .ref o)] := hl
  refine lv_aload_n hx hb dL_keep_0 rfl (lv_at hl 2 rfl) ?_
  refine lv_iconst (v := 0) hx hb dL_keep_1 (by decide) ?_
  refine lv_aload_n hx hb dL_keep_2 rfl (lv_at hl 0 rfl) ?_
  refine lv_iload_n hx hb dL_keep_3 rfl (lv_at hl 1 rfl) ?_
  refine vx_calli (vx_runV (As := [.int x1]) (rest := [.int 0, .ref o]) S (c4_keep l hI hl0 s.heap.size x1 hf) (cwV 1 hts qL_54 rfl rfl rfl (by decide +kernel) ⟨Nat.le_of_ble_eq_true rfl, Nat.le_of_ble_eq_true rfl⟩) ⟨hc_bl, va_recv hK hP (ci := 4) (q0 := 150) rfl (cw_ate (by omega) rfl), fun U hU hW => ⟨rfl, by rw [hU], zx_at hz hW (fun a _ _ => by rw [hU]) (fun q h => Or.inl h), by rw [hU]; exact hP, va_K.moved hW.alike hK⟩⟩ rfl rfl hl.1 rfl (lv_room (Nat.le_of_ble_eq_true rfl)) dL_keep_4 ⟨Nat.le_of_ble_eq_true rfl, Nat.le_of_ble_eq_true rfl⟩) (va_S.rf (A := hA ad o s.heap.size) (H0 := s.heap)) (fun q _ h => Or.inl h) (fun q h => Or.inl h) (fun q _ h => Or.inl h) (fun E ce q9 u t9 H1 locs1 ht hvm hpx hB hz1 hk1 hS hc1 hc2 hc3 => ?_) (fun r u t9 H1 locs1 ht hvm hw hB hz1 hk1 hS => ?_)
  · obtain ⟨hE, hB⟩ := hB
    have hP1 : va_P D vwCl (cwW Y ad t.2.2) H1 := by rw [← ht]; exact hB.1
    have hPo1 : va_P D vwCl (oW cL o f) H1 := va_P.kept hPo (fun k q hq => hk1 q.1 (va_at.lt (hPo k q hq)) (by rw [oW_o hq]; exact hO_n ho))
    rcases hk with ⟨h0, -⟩ | ⟨h0, rfl⟩
    · exact absurd h0 hpx
    · have hE1 : E = "java/lang/IllegalArgumentException" := by rw [hE, h0]; rfl
      subst hE1
      refine vx_catch hown [] ⟨0, 9, 12, 15⟩ [] (hT.trans rfl) (fun z h => nomatch h) (by decide) (by decide) (hts _ gclL_15) (va_Nw.use rfl hz.2.2.2.1) hc1 hc2 hc3 ?_
      refine lv_astore_n (lv' := [(3, .ref q9), (0, .ref (ad 150)), (1, .int x1), (2, .ref o)]) hx hb dL_keep_12 rfl hl (by decide) rfl (fun ls hl => ?_)
      refine lv_iconst (v := 1) hx hb dL_keep_13 (by decide) ?_
      exact hl_iw hx hb hr hlk hK hKo hP1 hPo1 hS (Nat.le_of_ble_eq_true rfl) (Nat.le_of_ble_eq_true rfl) (fun q => absurd q (by decide)) dL_keep_14
  · obtain ⟨rfl, h0⟩ := hw
    have hP1 : va_P D vwCl (cwW Y ad t.2.2) H1 := by rw [← ht]; exact hB.1
    have hPo1 : va_P D vwCl (oW cL o f) H1 := va_P.kept hPo (fun k q hq => hk1 q.1 (va_at.lt (hPo k q hq)) (by rw [oW_o hq]; exact hO_n ho))
    have hkc : kc = 0 := by
      rcases hk with ⟨_, q⟩ | ⟨q, _⟩
      · exact q
      · exact absurd (q.symm.trans h0) (by decide)
    subst hkc
    refine lv_i2l hx hb dL_keep_7 rfl ?_
    refine va_last (A := hA ad o s.heap.size) hx hb hKo (vP_c (hPo1 0 _ rfl) hP1) (vD_c (Or.inr rfl) (fun k q hq => by obtain ⟨i, hi, e⟩ := cW_q hq; rw [e]; exact ho.2 i hi) (⟨(cD (Y := Y) (μ := t.2.2) (sz := s.heap.size) hI).1 , fun k q hq => Or.inl ((cD (Y := Y) (μ := t.2.2) (sz := s.heap.size) hI).2 k q hq)⟩)) hS 0 0 rfl rfl (vp_in_nI (n := 0) (by omega) (by omega)) dL_keep_8 (fun H2 locs2 hP2 _ hS2 => ?_)
    refine lv_goto (tgt := 15) hx hb dL_keep_9 (by decide) ?_
    refine lv_iconst (v := 0) hx hb dL_keep_15 (by decide) ?_
    exact hl_iw (g := vp_updL f (Int32.toNatClampNeg 0) ((t.2.1).toInt64)) hx hb hr hlk hK hKo (fun k q hq => hP2 (k + 1) q hq) (fun k q hq => by cases k with | zero => cases hq; exact hP2 0 _ rfl | succ k => cases hq) hS2 (Nat.le_of_ble_eq_true rfl) (Nat.le_of_ble_eq_true rfl) (fun _ => if_pos rfl) dL_keep_16
set_option maxRecDepth 100000 in
set_option maxHeartbeats 4000000 in
theorem h6_goBack (l : Launch) {D : va_G} {Y : cYt} {ad : Nat → Nat} {mu : Nat → Nat → Int32} {cL : ClassId} {o : Nat} {f : Nat → Int64} (hI : cInj ad) (hl0 : l.stackTraces = false) (sz : Nat) (ho : hO ad o sz) (x1 : Int32) {t : Int32 × Int32 × (Nat → Nat → Int32)} (hf : f4_goBack_0 x1 mu = some t) {kc : Int32} (hk : t.1 = 0 ∧ kc = 0 ∨ t.1 = 2 ∧ kc = 1 ∨ t.1 = 3 ∧ kc = 2) : vx_Met l yL_goBack uL_goBack rmL (va_Pc [.ref (ad 150), .int x1, .ref o] (fun U => U.heap.size = sz ∧ hZ ad o sz U ∧ hB D Y ad cL o mu f U)) (va_Qi (fun (r9 : Int32) (g : Nat → Int64) => r9 = kc ∧ (kc = 0 → g 0 = (t.2.1).toInt64)) (fun g t9 => hB D Y ad cL o t.2.2 g t9) (hA ad o sz)) (vx_X (fun (_ : Unit) => False) (fun _ _ _ => True) (hA ad o sz)) 3 18 (hA ad o sz) := by
  refine vx_ofWH (cc := cL_goBack) (maxL := 4) (ret := some .int) (hh := [(0, 9, 12, 15), (0, 9, 15, 20)]) (by decide) rfl ?_
  intro p e s m args below meth c s₁ B hml hv
  obtain ⟨rfl, hsz, ⟨hz, hn⟩, ⟨hP, hK⟩, hPo, hKo⟩ := hv
  subst hsz
  have hx := B.exec
  have hb := B.bytes
  have hr := B.returns
  have hlk := B.notSynchronized
  have hown : s.vm.findClass RL = some m.cls := findClass_of_methodNamed B.named
  have hts : ∀ w ∈ gw, w.before ([.ref (ad 150), .int x1, .ref o] : List Value).toArray s = true := fun w h => atoms_spec (ws := uL_goBack) B.pre w (List.mem_cons_of_mem _ h)
  have hT : c.exceptionTable.toList = tableOf [(0, 9, 12, 15), (0, 9, 15, 20)] := vx_table (x := yL_goBack) B (atoms_spec (ws := uL_goBack) B.pre _ List.mem_cons_self)
  have S : CallFix p m c cL_goBack 4 s ([.ref (ad 150), .int x1, .ref o] : List Value).toArray gw RL := ⟨hx, hb, hml, hown, hts⟩
  have hl := lv_entry ([.ref (ad 150), .int x1, .ref o]) (n := 4) (Nat.le_of_ble_eq_true rfl)
  rw [lg_entry_eq]
  generalize (lg_sl ([.ref (ad 150), .int x1, .ref o]) ++ List.replicate (4 - (lg_sl ([.ref (ad 150), .int x1, .ref o])).length) Slot.unset).toArray = ls at hl ⊢
  have hl : lv_has ls 4 [(0, .ref (ad 150)), (1, .int x1), (2, .ref o)] := hl
  refine lv_aload_n hx hb dL_goBack_0 rfl (lv_at hl 2 rfl) ?_
  refine lv_iconst (v := 0) hx hb dL_goBack_1 (by decide) ?_
  refine lv_aload_n hx hb dL_goBack_2 rfl (lv_at hl 0 rfl) ?_
  refine lv_iload_n hx hb dL_goBack_3 rfl (lv_at hl 1 rfl) ?_
  refine vx_calli (vx_runV (As := [.int x1]) (rest := [.int 0, .ref o]) S (c4_goBack l hI hl0 s.heap.size x1 hf) (cwV 1 hts qL_57 rfl rfl rfl (by decide +kernel) ⟨Nat.le_of_ble_eq_true rfl, Nat.le_of_ble_eq_true rfl⟩) ⟨hc_bl, va_recv hK hP (ci := 4) (q0 := 150) rfl (cw_ate (by omega) rfl), fun U hU hW => ⟨rfl, by rw [hU], zx_at hz hW (fun a _ _ => by rw [hU]) (fun q h => Or.inl h), by rw [hU]; exact hP, va_K.moved hW.alike hK⟩⟩ rfl rfl hl.1 rfl (lv_room (Nat.le_of_ble_eq_true rfl)) dL_goBack_4 ⟨Nat.le_of_ble_eq_true rfl, Nat.le_of_ble_eq_true rfl⟩) (va_S.rf (A := hA ad o s.heap.size) (H0 := s.heap)) (fun q _ h => Or.inl h) (fun q h => Or.inl h) (fun q _ h => Or.inl h) (fun E ce q9 u t9 H1 locs1 ht hvm hpx hB hz1 hk1 hS hc1 hc2 hc3 => ?_) (fun r u t9 H1 locs1 ht hvm hw hB hz1 hk1 hS => ?_)
  · obtain ⟨hE, hB⟩ := hB
    have hP1 : va_P D vwCl (cwW Y ad t.2.2) H1 := by rw [← ht]; exact hB.1
    have hPo1 : va_P D vwCl (oW cL o f) H1 := va_P.kept hPo (fun k q hq => hk1 q.1 (va_at.lt (hPo k q hq)) (by rw [oW_o hq]; exact hO_n ho))
    rcases hk with ⟨h0, -⟩ | ⟨h0, rfl⟩ | ⟨h0, rfl⟩
    · exact absurd h0 hpx
    · have hE1 : E = "java/lang/IllegalArgumentException" := by rw [hE, h0]; rfl
      subst hE1
      refine vx_catch hown [] ⟨0, 9, 12, 15⟩ [⟨0, 9, 15, 20⟩] (hT.trans rfl) (fun z h => nomatch h) (by decide) (by decide) (hts _ gclL_15) (va_Nw.use rfl hz.2.2.2.1) hc1 hc2 hc3 ?_
      refine lv_astore_n (lv' := [(3, .ref q9), (0, .ref (ad 150)), (1, .int x1), (2, .ref o)]) hx hb dL_goBack_12 rfl hl (by decide) rfl (fun ls hl => ?_)
      refine lv_iconst (v := 1) hx hb dL_goBack_13 (by decide) ?_
      exact hl_iw hx hb hr hlk hK hKo hP1 hPo1 hS (Nat.le_of_ble_eq_true rfl) (Nat.le_of_ble_eq_true rfl) (fun q => absurd q (by decide)) dL_goBack_14
    · have hE1 : E = "java/lang/IllegalStateException" := by rw [hE, h0]; rfl
      subst hE1
      refine vx_catch hown [⟨0, 9, 12, 15⟩] ⟨0, 9, 15, 20⟩ [] (hT.trans rfl) (fun z h => by obtain rfl := List.mem_singleton.mp h; exact Or.inr ⟨by decide, "java/lang/IllegalArgumentException", hts _ gclL_15, hn.2.2⟩) (by decide) (by decide) (hts _ gclL_20) (va_Nw.use rfl hz.2.2.2.2.1) hc1 hc2 hc3 ?_
      refine lv_astore_n (lv' := [(3, .ref q9), (0, .ref (ad 150)), (1, .int x1), (2, .ref o)]) hx hb dL_goBack_15 rfl hl (by decide) rfl (fun ls hl => ?_)
      refine lv_iconst (v := 2) hx hb dL_goBack_16 (by decide) ?_
      exact hl_iw hx hb hr hlk hK hKo hP1 hPo1 hS (Nat.le_of_ble_eq_true rfl) (Nat.le_of_ble_eq_true rfl) (fun q => absurd q (by decide)) dL_goBack_17
  · obtain ⟨rfl, h0⟩ := hw
    have hP1 : va_P D vwCl (cwW Y ad t.2.2) H1 := by rw [← ht]; exact hB.1
    have hPo1 : va_P D vwCl (oW cL o f) H1 := va_P.kept hPo (fun k q hq => hk1 q.1 (va_at.lt (hPo k q hq)) (by rw [oW_o hq]; exact hO_n ho))
    have hkc : kc = 0 := by
      rcases hk with ⟨_, q⟩ | ⟨q, _⟩ | ⟨q, _⟩
      · exact q
      · exact absurd (q.symm.trans h0) (by decide)
      · exact absurd (q.symm.trans h0) (by decide)
    subst hkc
    refine lv_i2l hx hb dL_goBack_7 rfl ?_
    refine va_last (A := hA ad o s.heap.size) hx hb hKo (vP_c (hPo1 0 _ rfl) hP1) (vD_c (Or.inr rfl) (fun k q hq => by obtain ⟨i, hi, e⟩ := cW_q hq; rw [e]; exact ho.2 i hi) (⟨(cD (Y := Y) (μ := t.2.2) (sz := s.heap.size) hI).1 , fun k q hq => Or.inl ((cD (Y := Y) (μ := t.2.2) (sz := s.heap.size) hI).2 k q hq)⟩)) hS 0 0 rfl rfl (vp_in_nI (n := 0) (by omega) (by omega)) dL_goBack_8 (fun H2 locs2 hP2 _ hS2 => ?_)
    refine lv_goto (tgt := 18) hx hb dL_goBack_9 (by decide) ?_
    refine lv_iconst (v := 0) hx hb dL_goBack_18 (by decide) ?_
    exact hl_iw (g := vp_updL f (Int32.toNatClampNeg 0) ((t.2.1).toInt64)) hx hb hr hlk hK hKo (fun k q hq => hP2 (k + 1) q hq) (fun k q hq => by cases k with | zero => cases hq; exact hP2 0 _ rfl | succ k => cases hq) hS2 (Nat.le_of_ble_eq_true rfl) (Nat.le_of_ble_eq_true rfl) (fun _ => if_pos rfl) dL_goBack_19
set_option maxRecDepth 100000 in
set_option maxHeartbeats 4000000 in
theorem h6_section (l : Launch) {D : va_G} {Y : cYt} {ad : Nat → Nat} {mu : Nat → Nat → Int32} {cL : ClassId} {o : Nat} {f : Nat → Int64} (hI : cInj ad) (hl0 : l.stackTraces = false) (sz : Nat) (ho : hO ad o sz) (x1 : Int32) (x2 : Int32) {t : Int32 × Int32} (hf : f4_section_0 mu x1 x2 = some t) {kc : Int32} (hk : t.1 = 0 ∧ kc = 0 ∨ t.1 = 1 ∧ kc = 1 ∨ t.1 = 2 ∧ kc = 2) : vx_Met l yL_section uL_section rmL (va_Pc [.ref (ad 150), .int x1, .int x2, .ref o] (fun U => U.heap.size = sz ∧ hZ ad o sz U ∧ hB D Y ad cL o mu f U)) (va_Qi (fun (r9 : Int32) (g : Nat → Int64) => r9 = kc ∧ (kc = 0 → g 0 = (t.2).toInt64)) (fun g t9 => hB D Y ad cL o mu g t9) (hA ad o sz)) (vx_X (fun (_ : Unit) => False) (fun _ _ _ => True) (hA ad o sz)) 3 18 (hA ad o sz) := by
  refine vx_ofWH (cc := cL_section) (maxL := 5) (ret := some .int) (hh := [(0, 10, 13, 13), (0, 10, 17, 15)]) (by decide) rfl ?_
  intro p e s m args below meth c s₁ B hml hv
  obtain ⟨rfl, hsz, ⟨hz, hn⟩, ⟨hP, hK⟩, hPo, hKo⟩ := hv
  subst hsz
  have hx := B.exec
  have hb := B.bytes
  have hr := B.returns
  have hlk := B.notSynchronized
  have hown : s.vm.findClass RL = some m.cls := findClass_of_methodNamed B.named
  have hts : ∀ w ∈ gw, w.before ([.ref (ad 150), .int x1, .int x2, .ref o] : List Value).toArray s = true := fun w h => atoms_spec (ws := uL_section) B.pre w (List.mem_cons_of_mem _ h)
  have hT : c.exceptionTable.toList = tableOf [(0, 10, 13, 13), (0, 10, 17, 15)] := vx_table (x := yL_section) B (atoms_spec (ws := uL_section) B.pre _ List.mem_cons_self)
  have S : CallFix p m c cL_section 5 s ([.ref (ad 150), .int x1, .int x2, .ref o] : List Value).toArray gw RL := ⟨hx, hb, hml, hown, hts⟩
  have hl := lv_entry ([.ref (ad 150), .int x1, .int x2, .ref o]) (n := 5) (Nat.le_of_ble_eq_true rfl)
  rw [lg_entry_eq]
  generalize (lg_sl ([.ref (ad 150), .int x1, .int x2, .ref o]) ++ List.replicate (5 - (lg_sl ([.ref (ad 150), .int x1, .int x2, .ref o])).length) Slot.unset).toArray = ls at hl ⊢
  have hl : lv_has ls 5 [(0, .ref (ad 150)), (1, .int x1), (2, .int x2), (3, .ref o)] := hl
  refine lv_aload_n hx hb dL_section_0 rfl (lv_at hl 3 rfl) ?_
  refine lv_iconst (v := 0) hx hb dL_section_1 (by decide) ?_
  refine lv_aload_n hx hb dL_section_2 rfl (lv_at hl 0 rfl) ?_
  refine lv_iload_n hx hb dL_section_3 rfl (lv_at hl 1 rfl) ?_
  refine lv_iload_n hx hb dL_section_4 rfl (lv_at hl 2 rfl) ?_
  refine vx_calli (vx_runV (As := [.int x1, .int x2]) (rest := [.int 0, .ref o]) S (c4_section l hI hl0 s.heap.size x1 x2 hf) (cwV 2 hts qL_60 rfl rfl rfl (by decide +kernel) ⟨Nat.le_of_ble_eq_true rfl, Nat.le_of_ble_eq_true rfl⟩) ⟨hc_bl, va_recv hK hP (ci := 4) (q0 := 150) rfl (cw_ate (by omega) rfl), fun U hU hW => ⟨rfl, by rw [hU], zx_at hz hW (fun a _ _ => by rw [hU]) (fun q h => Or.inl h), by rw [hU]; exact hP, va_K.moved hW.alike hK⟩⟩ rfl rfl hl.1 rfl (lv_room (Nat.le_of_ble_eq_true rfl)) dL_section_5 ⟨Nat.le_of_ble_eq_true rfl, Nat.le_of_ble_eq_true rfl⟩) (va_S.rf (A := hA ad o s.heap.size) (H0 := s.heap)) (fun q _ h => Or.inl h) (fun q h => Or.inl h) (fun q _ h => Or.inl h) (fun E ce q9 u t9 H1 locs1 ht hvm hpx hB hz1 hk1 hS hc1 hc2 hc3 => ?_) (fun r u t9 H1 locs1 ht hvm hw hB hz1 hk1 hS => ?_)
  · obtain ⟨hE, hB⟩ := hB
    have hP1 : va_P D vwCl (cwW Y ad mu) H1 := by rw [← ht]; exact hB.1
    have hPo1 : va_P D vwCl (oW cL o f) H1 := va_P.kept hPo (fun k q hq => hk1 q.1 (va_at.lt (hPo k q hq)) (by rw [oW_o hq]; exact hO_n ho))
    rcases hk with ⟨h0, -⟩ | ⟨h0, rfl⟩ | ⟨h0, rfl⟩
    · exact absurd h0 hpx
    · have hE1 : E = "java/lang/IndexOutOfBoundsException" := by rw [hE, h0]; rfl
      subst hE1
      refine vx_catch hown [] ⟨0, 10, 13, 13⟩ [⟨0, 10, 17, 15⟩] (hT.trans rfl) (fun z h => nomatch h) (by decide) (by decide) (hts _ gclL_13) (va_Nw.use rfl hz.2.2.1) hc1 hc2 hc3 ?_
      refine lv_astore (lv' := [(4, .ref q9), (0, .ref (ad 150)), (1, .int x1), (2, .int x2), (3, .ref o)]) hx hb dL_section_13 hl (by decide) rfl (fun ls hl => ?_)
      refine lv_iconst (v := 1) hx hb dL_section_15 (by decide) ?_
      exact hl_iw hx hb hr hlk hK hKo hP1 hPo1 hS (Nat.le_of_ble_eq_true rfl) (Nat.le_of_ble_eq_true rfl) (fun q => absurd q (by decide)) dL_section_16
    · have hE1 : E = "java/lang/IllegalArgumentException" := by rw [hE, h0]; rfl
      subst hE1
      refine vx_catch hown [⟨0, 10, 13, 13⟩] ⟨0, 10, 17, 15⟩ [] (hT.trans rfl) (fun z h => by obtain rfl := List.mem_singleton.mp h; exact Or.inr ⟨by decide, "java/lang/IndexOutOfBoundsException", hts _ gclL_13, hn.1⟩) (by decide) (by decide) (hts _ gclL_15) (va_Nw.use rfl hz.2.2.2.1) hc1 hc2 hc3 ?_
      refine lv_astore (lv' := [(4, .ref q9), (0, .ref (ad 150)), (1, .int x1), (2, .int x2), (3, .ref o)]) hx hb dL_section_17 hl (by decide) rfl (fun ls hl => ?_)
      refine lv_iconst (v := 2) hx hb dL_section_19 (by decide) ?_
      exact hl_iw hx hb hr hlk hK hKo hP1 hPo1 hS (Nat.le_of_ble_eq_true rfl) (Nat.le_of_ble_eq_true rfl) (fun q => absurd q (by decide)) dL_section_20
  · obtain ⟨rfl, h0⟩ := hw
    have hP1 : va_P D vwCl (cwW Y ad mu) H1 := by rw [← ht]; exact hB.1
    have hPo1 : va_P D vwCl (oW cL o f) H1 := va_P.kept hPo (fun k q hq => hk1 q.1 (va_at.lt (hPo k q hq)) (by rw [oW_o hq]; exact hO_n ho))
    have hkc : kc = 0 := by
      rcases hk with ⟨_, q⟩ | ⟨q, _⟩ | ⟨q, _⟩
      · exact q
      · exact absurd (q.symm.trans h0) (by decide)
      · exact absurd (q.symm.trans h0) (by decide)
    subst hkc
    refine lv_i2l hx hb dL_section_8 rfl ?_
    refine va_last (A := hA ad o s.heap.size) hx hb hKo (vP_c (hPo1 0 _ rfl) hP1) (vD_c (Or.inr rfl) (fun k q hq => by obtain ⟨i, hi, e⟩ := cW_q hq; rw [e]; exact ho.2 i hi) (⟨(cD (Y := Y) (μ := mu) (sz := s.heap.size) hI).1 , fun k q hq => Or.inl ((cD (Y := Y) (μ := mu) (sz := s.heap.size) hI).2 k q hq)⟩)) hS 0 0 rfl rfl (vp_in_nI (n := 0) (by omega) (by omega)) dL_section_9 (fun H2 locs2 hP2 _ hS2 => ?_)
    refine lv_goto (tgt := 21) hx hb dL_section_10 (by decide) ?_
    refine lv_iconst (v := 0) hx hb dL_section_21 (by decide) ?_
    exact hl_iw (g := vp_updL f (Int32.toNatClampNeg 0) ((t.2).toInt64)) hx hb hr hlk hK hKo (fun k q hq => hP2 (k + 1) q hq) (fun k q hq => by cases k with | zero => cases hq; exact hP2 0 _ rfl | succ k => cases hq) hS2 (Nat.le_of_ble_eq_true rfl) (Nat.le_of_ble_eq_true rfl) (fun _ => if_pos rfl) dL_section_22
set_option maxRecDepth 100000 in
set_option maxHeartbeats 4000000 in
theorem h6_carOf (l : Launch) {D : va_G} {Y : cYt} {ad : Nat → Nat} {mu : Nat → Nat → Int32} {cL : ClassId} {o : Nat} {f : Nat → Int64} (hI : cInj ad) (hl0 : l.stackTraces = false) (sz : Nat) (ho : hO ad o sz) (x1 : Int32) (x2 : Int32) {t : Int32 × Int32} (hf : f4_carOf_0 mu x1 x2 = some t) {kc : Int32} (hk : t.1 = 0 ∧ kc = 0 ∨ t.1 = 1 ∧ kc = 1 ∨ t.1 = 2 ∧ kc = 2) : vx_Met l yL_carOf uL_carOf rmL (va_Pc [.ref (ad 150), .int x1, .int x2, .ref o] (fun U => U.heap.size = sz ∧ hZ ad o sz U ∧ hB D Y ad cL o mu f U)) (va_Qi (fun (r9 : Int32) (g : Nat → Int64) => r9 = kc ∧ (kc = 0 → g 0 = (t.2).toInt64)) (fun g t9 => hB D Y ad cL o mu g t9) (hA ad o sz)) (vx_X (fun (_ : Unit) => False) (fun _ _ _ => True) (hA ad o sz)) 3 18 (hA ad o sz) := by
  refine vx_ofWH (cc := cL_carOf) (maxL := 5) (ret := some .int) (hh := [(0, 10, 13, 13), (0, 10, 17, 15)]) (by decide) rfl ?_
  intro p e s m args below meth c s₁ B hml hv
  obtain ⟨rfl, hsz, ⟨hz, hn⟩, ⟨hP, hK⟩, hPo, hKo⟩ := hv
  subst hsz
  have hx := B.exec
  have hb := B.bytes
  have hr := B.returns
  have hlk := B.notSynchronized
  have hown : s.vm.findClass RL = some m.cls := findClass_of_methodNamed B.named
  have hts : ∀ w ∈ gw, w.before ([.ref (ad 150), .int x1, .int x2, .ref o] : List Value).toArray s = true := fun w h => atoms_spec (ws := uL_carOf) B.pre w (List.mem_cons_of_mem _ h)
  have hT : c.exceptionTable.toList = tableOf [(0, 10, 13, 13), (0, 10, 17, 15)] := vx_table (x := yL_carOf) B (atoms_spec (ws := uL_carOf) B.pre _ List.mem_cons_self)
  have S : CallFix p m c cL_carOf 5 s ([.ref (ad 150), .int x1, .int x2, .ref o] : List Value).toArray gw RL := ⟨hx, hb, hml, hown, hts⟩
  have hl := lv_entry ([.ref (ad 150), .int x1, .int x2, .ref o]) (n := 5) (Nat.le_of_ble_eq_true rfl)
  rw [lg_entry_eq]
  generalize (lg_sl ([.ref (ad 150), .int x1, .int x2, .ref o]) ++ List.replicate (5 - (lg_sl ([.ref (ad 150), .int x1, .int x2, .ref o])).length) Slot.unset).toArray = ls at hl ⊢
  have hl : lv_has ls 5 [(0, .ref (ad 150)), (1, .int x1), (2, .int x2), (3, .ref o)] := hl
  refine lv_aload_n hx hb dL_carOf_0 rfl (lv_at hl 3 rfl) ?_
  refine lv_iconst (v := 0) hx hb dL_carOf_1 (by decide) ?_
  refine lv_aload_n hx hb dL_carOf_2 rfl (lv_at hl 0 rfl) ?_
  refine lv_iload_n hx hb dL_carOf_3 rfl (lv_at hl 1 rfl) ?_
  refine lv_iload_n hx hb dL_carOf_4 rfl (lv_at hl 2 rfl) ?_
  refine vx_calli (vx_runV (As := [.int x1, .int x2]) (rest := [.int 0, .ref o]) S (c4_carOf l hI hl0 s.heap.size x1 x2 hf) (cwV 2 hts qL_63 rfl rfl rfl (by decide +kernel) ⟨Nat.le_of_ble_eq_true rfl, Nat.le_of_ble_eq_true rfl⟩) ⟨hc_bl, va_recv hK hP (ci := 4) (q0 := 150) rfl (cw_ate (by omega) rfl), fun U hU hW => ⟨rfl, by rw [hU], zx_at hz hW (fun a _ _ => by rw [hU]) (fun q h => Or.inl h), by rw [hU]; exact hP, va_K.moved hW.alike hK⟩⟩ rfl rfl hl.1 rfl (lv_room (Nat.le_of_ble_eq_true rfl)) dL_carOf_5 ⟨Nat.le_of_ble_eq_true rfl, Nat.le_of_ble_eq_true rfl⟩) (va_S.rf (A := hA ad o s.heap.size) (H0 := s.heap)) (fun q _ h => Or.inl h) (fun q h => Or.inl h) (fun q _ h => Or.inl h) (fun E ce q9 u t9 H1 locs1 ht hvm hpx hB hz1 hk1 hS hc1 hc2 hc3 => ?_) (fun r u t9 H1 locs1 ht hvm hw hB hz1 hk1 hS => ?_)
  · obtain ⟨hE, hB⟩ := hB
    have hP1 : va_P D vwCl (cwW Y ad mu) H1 := by rw [← ht]; exact hB.1
    have hPo1 : va_P D vwCl (oW cL o f) H1 := va_P.kept hPo (fun k q hq => hk1 q.1 (va_at.lt (hPo k q hq)) (by rw [oW_o hq]; exact hO_n ho))
    rcases hk with ⟨h0, -⟩ | ⟨h0, rfl⟩ | ⟨h0, rfl⟩
    · exact absurd h0 hpx
    · have hE1 : E = "java/lang/IndexOutOfBoundsException" := by rw [hE, h0]; rfl
      subst hE1
      refine vx_catch hown [] ⟨0, 10, 13, 13⟩ [⟨0, 10, 17, 15⟩] (hT.trans rfl) (fun z h => nomatch h) (by decide) (by decide) (hts _ gclL_13) (va_Nw.use rfl hz.2.2.1) hc1 hc2 hc3 ?_
      refine lv_astore (lv' := [(4, .ref q9), (0, .ref (ad 150)), (1, .int x1), (2, .int x2), (3, .ref o)]) hx hb dL_carOf_13 hl (by decide) rfl (fun ls hl => ?_)
      refine lv_iconst (v := 1) hx hb dL_carOf_15 (by decide) ?_
      exact hl_iw hx hb hr hlk hK hKo hP1 hPo1 hS (Nat.le_of_ble_eq_true rfl) (Nat.le_of_ble_eq_true rfl) (fun q => absurd q (by decide)) dL_carOf_16
    · have hE1 : E = "java/lang/IllegalArgumentException" := by rw [hE, h0]; rfl
      subst hE1
      refine vx_catch hown [⟨0, 10, 13, 13⟩] ⟨0, 10, 17, 15⟩ [] (hT.trans rfl) (fun z h => by obtain rfl := List.mem_singleton.mp h; exact Or.inr ⟨by decide, "java/lang/IndexOutOfBoundsException", hts _ gclL_13, hn.1⟩) (by decide) (by decide) (hts _ gclL_15) (va_Nw.use rfl hz.2.2.2.1) hc1 hc2 hc3 ?_
      refine lv_astore (lv' := [(4, .ref q9), (0, .ref (ad 150)), (1, .int x1), (2, .int x2), (3, .ref o)]) hx hb dL_carOf_17 hl (by decide) rfl (fun ls hl => ?_)
      refine lv_iconst (v := 2) hx hb dL_carOf_19 (by decide) ?_
      exact hl_iw hx hb hr hlk hK hKo hP1 hPo1 hS (Nat.le_of_ble_eq_true rfl) (Nat.le_of_ble_eq_true rfl) (fun q => absurd q (by decide)) dL_carOf_20
  · obtain ⟨rfl, h0⟩ := hw
    have hP1 : va_P D vwCl (cwW Y ad mu) H1 := by rw [← ht]; exact hB.1
    have hPo1 : va_P D vwCl (oW cL o f) H1 := va_P.kept hPo (fun k q hq => hk1 q.1 (va_at.lt (hPo k q hq)) (by rw [oW_o hq]; exact hO_n ho))
    have hkc : kc = 0 := by
      rcases hk with ⟨_, q⟩ | ⟨q, _⟩ | ⟨q, _⟩
      · exact q
      · exact absurd (q.symm.trans h0) (by decide)
      · exact absurd (q.symm.trans h0) (by decide)
    subst hkc
    refine lv_i2l hx hb dL_carOf_8 rfl ?_
    refine va_last (A := hA ad o s.heap.size) hx hb hKo (vP_c (hPo1 0 _ rfl) hP1) (vD_c (Or.inr rfl) (fun k q hq => by obtain ⟨i, hi, e⟩ := cW_q hq; rw [e]; exact ho.2 i hi) (⟨(cD (Y := Y) (μ := mu) (sz := s.heap.size) hI).1 , fun k q hq => Or.inl ((cD (Y := Y) (μ := mu) (sz := s.heap.size) hI).2 k q hq)⟩)) hS 0 0 rfl rfl (vp_in_nI (n := 0) (by omega) (by omega)) dL_carOf_9 (fun H2 locs2 hP2 _ hS2 => ?_)
    refine lv_goto (tgt := 21) hx hb dL_carOf_10 (by decide) ?_
    refine lv_iconst (v := 0) hx hb dL_carOf_21 (by decide) ?_
    exact hl_iw (g := vp_updL f (Int32.toNatClampNeg 0) ((t.2).toInt64)) hx hb hr hlk hK hKo (fun k q hq => hP2 (k + 1) q hq) (fun k q hq => by cases k with | zero => cases hq; exact hP2 0 _ rfl | succ k => cases hq) hS2 (Nat.le_of_ble_eq_true rfl) (Nat.le_of_ble_eq_true rfl) (fun _ => if_pos rfl) dL_carOf_22
set_option maxRecDepth 100000 in
set_option maxHeartbeats 4000000 in
theorem h6_cars (l : Launch) {D : va_G} {Y : cYt} {ad : Nat → Nat} {mu : Nat → Nat → Int32} {cL : ClassId} {o : Nat} {f : Nat → Int64} (hI : cInj ad) (hl0 : l.stackTraces = false) (sz : Nat) (ho : hO ad o sz) (x1 : Int32) {t : Int32 × Int32} (hf : f4_cars_0 mu x1 = some t) {kc : Int32} (hk : t.1 = 0 ∧ kc = 0 ∨ t.1 = 2 ∧ kc = 1) : vx_Met l yL_cars uL_cars rmL (va_Pc [.ref (ad 150), .int x1, .ref o] (fun U => U.heap.size = sz ∧ hZ ad o sz U ∧ hB D Y ad cL o mu f U)) (va_Qi (fun (r9 : Int32) (g : Nat → Int64) => r9 = kc ∧ (kc = 0 → g 0 = (t.2).toInt64)) (fun g t9 => hB D Y ad cL o mu g t9) (hA ad o sz)) (vx_X (fun (_ : Unit) => False) (fun _ _ _ => True) (hA ad o sz)) 3 18 (hA ad o sz) := by
  refine vx_ofWH (cc := cL_cars) (maxL := 4) (ret := some .int) (hh := [(0, 9, 12, 15)]) (by decide) rfl ?_
  intro p e s m args below meth c s₁ B hml hv
  obtain ⟨rfl, hsz, ⟨hz, hn⟩, ⟨hP, hK⟩, hPo, hKo⟩ := hv
  subst hsz
  have hx := B.exec
  have hb := B.bytes
  have hr := B.returns
  have hlk := B.notSynchronized
  have hown : s.vm.findClass RL = some m.cls := findClass_of_methodNamed B.named
  have hts : ∀ w ∈ gw, w.before ([.ref (ad 150), .int x1, .ref o] : List Value).toArray s = true := fun w h => atoms_spec (ws := uL_cars) B.pre w (List.mem_cons_of_mem _ h)
  have hT : c.exceptionTable.toList = tableOf [(0, 9, 12, 15)] := vx_table (x := yL_cars) B (atoms_spec (ws := uL_cars) B.pre _ List.mem_cons_self)
  have S : CallFix p m c cL_cars 4 s ([.ref (ad 150), .int x1, .ref o] : List Value).toArray gw RL := ⟨hx, hb, hml, hown, hts⟩
  have hl := lv_entry ([.ref (ad 150), .int x1, .ref o]) (n := 4) (Nat.le_of_ble_eq_true rfl)
  rw [lg_entry_eq]
  generalize (lg_sl ([.ref (ad 150), .int x1, .ref o]) ++ List.replicate (4 - (lg_sl ([.ref (ad 150), .int x1, .ref o])).length) Slot.unset).toArray = ls at hl ⊢
  have hl : lv_has ls 4 [(0, .ref (ad 150)), (1, .int x1), (2, .ref o)] := hl
  refine lv_aload_n hx hb dL_cars_0 rfl (lv_at hl 2 rfl) ?_
  refine lv_iconst (v := 0) hx hb dL_cars_1 (by decide) ?_
  refine lv_aload_n hx hb dL_cars_2 rfl (lv_at hl 0 rfl) ?_
  refine lv_iload_n hx hb dL_cars_3 rfl (lv_at hl 1 rfl) ?_
  refine vx_calli (vx_runV (As := [.int x1]) (rest := [.int 0, .ref o]) S (c4_cars l hI hl0 s.heap.size x1 hf) (cwV 1 hts qL_66 rfl rfl rfl (by decide +kernel) ⟨Nat.le_of_ble_eq_true rfl, Nat.le_of_ble_eq_true rfl⟩) ⟨hc_bl, va_recv hK hP (ci := 4) (q0 := 150) rfl (cw_ate (by omega) rfl), fun U hU hW => ⟨rfl, by rw [hU], zx_at hz hW (fun a _ _ => by rw [hU]) (fun q h => Or.inl h), by rw [hU]; exact hP, va_K.moved hW.alike hK⟩⟩ rfl rfl hl.1 rfl (lv_room (Nat.le_of_ble_eq_true rfl)) dL_cars_4 ⟨Nat.le_of_ble_eq_true rfl, Nat.le_of_ble_eq_true rfl⟩) (va_S.rf (A := hA ad o s.heap.size) (H0 := s.heap)) (fun q _ h => Or.inl h) (fun q h => Or.inl h) (fun q _ h => Or.inl h) (fun E ce q9 u t9 H1 locs1 ht hvm hpx hB hz1 hk1 hS hc1 hc2 hc3 => ?_) (fun r u t9 H1 locs1 ht hvm hw hB hz1 hk1 hS => ?_)
  · obtain ⟨hE, hB⟩ := hB
    have hP1 : va_P D vwCl (cwW Y ad mu) H1 := by rw [← ht]; exact hB.1
    have hPo1 : va_P D vwCl (oW cL o f) H1 := va_P.kept hPo (fun k q hq => hk1 q.1 (va_at.lt (hPo k q hq)) (by rw [oW_o hq]; exact hO_n ho))
    rcases hk with ⟨h0, -⟩ | ⟨h0, rfl⟩
    · exact absurd h0 hpx
    · have hE1 : E = "java/lang/IllegalArgumentException" := by rw [hE, h0]; rfl
      subst hE1
      refine vx_catch hown [] ⟨0, 9, 12, 15⟩ [] (hT.trans rfl) (fun z h => nomatch h) (by decide) (by decide) (hts _ gclL_15) (va_Nw.use rfl hz.2.2.2.1) hc1 hc2 hc3 ?_
      refine lv_astore_n (lv' := [(3, .ref q9), (0, .ref (ad 150)), (1, .int x1), (2, .ref o)]) hx hb dL_cars_12 rfl hl (by decide) rfl (fun ls hl => ?_)
      refine lv_iconst (v := 1) hx hb dL_cars_13 (by decide) ?_
      exact hl_iw hx hb hr hlk hK hKo hP1 hPo1 hS (Nat.le_of_ble_eq_true rfl) (Nat.le_of_ble_eq_true rfl) (fun q => absurd q (by decide)) dL_cars_14
  · obtain ⟨rfl, h0⟩ := hw
    have hP1 : va_P D vwCl (cwW Y ad mu) H1 := by rw [← ht]; exact hB.1
    have hPo1 : va_P D vwCl (oW cL o f) H1 := va_P.kept hPo (fun k q hq => hk1 q.1 (va_at.lt (hPo k q hq)) (by rw [oW_o hq]; exact hO_n ho))
    have hkc : kc = 0 := by
      rcases hk with ⟨_, q⟩ | ⟨q, _⟩
      · exact q
      · exact absurd (q.symm.trans h0) (by decide)
    subst hkc
    refine lv_i2l hx hb dL_cars_7 rfl ?_
    refine va_last (A := hA ad o s.heap.size) hx hb hKo (vP_c (hPo1 0 _ rfl) hP1) (vD_c (Or.inr rfl) (fun k q hq => by obtain ⟨i, hi, e⟩ := cW_q hq; rw [e]; exact ho.2 i hi) (⟨(cD (Y := Y) (μ := mu) (sz := s.heap.size) hI).1 , fun k q hq => Or.inl ((cD (Y := Y) (μ := mu) (sz := s.heap.size) hI).2 k q hq)⟩)) hS 0 0 rfl rfl (vp_in_nI (n := 0) (by omega) (by omega)) dL_cars_8 (fun H2 locs2 hP2 _ hS2 => ?_)
    refine lv_goto (tgt := 15) hx hb dL_cars_9 (by decide) ?_
    refine lv_iconst (v := 0) hx hb dL_cars_15 (by decide) ?_
    exact hl_iw (g := vp_updL f (Int32.toNatClampNeg 0) ((t.2).toInt64)) hx hb hr hlk hK hKo (fun k q hq => hP2 (k + 1) q hq) (fun k q hq => by cases k with | zero => cases hq; exact hP2 0 _ rfl | succ k => cases hq) hS2 (Nat.le_of_ble_eq_true rfl) (Nat.le_of_ble_eq_true rfl) (fun _ => if_pos rfl) dL_cars_16
set_option maxRecDepth 100000 in
set_option maxHeartbeats 4000000 in
theorem h6_rolling (l : Launch) {D : va_G} {Y : cYt} {ad : Nat → Nat} {mu : Nat → Nat → Int32} {cL : ClassId} {o : Nat} {f : Nat → Int64} (hI : cInj ad) (hl0 : l.stackTraces = false) (sz : Nat) (ho : hO ad o sz) (x1 : Int32) {t : Int32 × Int32} (hf : f4_rolling_0 mu x1 = some t) {kc : Int32} (hk : t.1 = 0 ∧ kc = 0 ∨ t.1 = 2 ∧ kc = 1) : vx_Met l yL_rolling uL_rolling rmL (va_Pc [.ref (ad 150), .int x1, .ref o] (fun U => U.heap.size = sz ∧ hZ ad o sz U ∧ hB D Y ad cL o mu f U)) (va_Qi (fun (r9 : Int32) (g : Nat → Int64) => r9 = kc ∧ (kc = 0 → g 0 = (t.2).toInt64)) (fun g t9 => hB D Y ad cL o mu g t9) (hA ad o sz)) (vx_X (fun (_ : Unit) => False) (fun _ _ _ => True) (hA ad o sz)) 3 18 (hA ad o sz) := by
  refine vx_ofWH (cc := cL_rolling) (maxL := 4) (ret := some .int) (hh := [(0, 9, 12, 15)]) (by decide) rfl ?_
  intro p e s m args below meth c s₁ B hml hv
  obtain ⟨rfl, hsz, ⟨hz, hn⟩, ⟨hP, hK⟩, hPo, hKo⟩ := hv
  subst hsz
  have hx := B.exec
  have hb := B.bytes
  have hr := B.returns
  have hlk := B.notSynchronized
  have hown : s.vm.findClass RL = some m.cls := findClass_of_methodNamed B.named
  have hts : ∀ w ∈ gw, w.before ([.ref (ad 150), .int x1, .ref o] : List Value).toArray s = true := fun w h => atoms_spec (ws := uL_rolling) B.pre w (List.mem_cons_of_mem _ h)
  have hT : c.exceptionTable.toList = tableOf [(0, 9, 12, 15)] := vx_table (x := yL_rolling) B (atoms_spec (ws := uL_rolling) B.pre _ List.mem_cons_self)
  have S : CallFix p m c cL_rolling 4 s ([.ref (ad 150), .int x1, .ref o] : List Value).toArray gw RL := ⟨hx, hb, hml, hown, hts⟩
  have hl := lv_entry ([.ref (ad 150), .int x1, .ref o]) (n := 4) (Nat.le_of_ble_eq_true rfl)
  rw [lg_entry_eq]
  generalize (lg_sl ([.ref (ad 150), .int x1, .ref o]) ++ List.replicate (4 - (lg_sl ([.ref (ad 150), .int x1, .ref o])).length) Slot.unset).toArray = ls at hl ⊢
  have hl : lv_has ls 4 [(0, .ref (ad 150)), (1, .int x1), (2, .ref o)] := hl
  refine lv_aload_n hx hb dL_rolling_0 rfl (lv_at hl 2 rfl) ?_
  refine lv_iconst (v := 0) hx hb dL_rolling_1 (by decide) ?_
  refine lv_aload_n hx hb dL_rolling_2 rfl (lv_at hl 0 rfl) ?_
  refine lv_iload_n hx hb dL_rolling_3 rfl (lv_at hl 1 rfl) ?_
  refine vx_calli (vx_runV (As := [.int x1]) (rest := [.int 0, .ref o]) S (c4_rolling l hI hl0 s.heap.size x1 hf) (cwV 1 hts qL_69 rfl rfl rfl (by decide +kernel) ⟨Nat.le_of_ble_eq_true rfl, Nat.le_of_ble_eq_true rfl⟩) ⟨hc_bl, va_recv hK hP (ci := 4) (q0 := 150) rfl (cw_ate (by omega) rfl), fun U hU hW => ⟨rfl, by rw [hU], zx_at hz hW (fun a _ _ => by rw [hU]) (fun q h => Or.inl h), by rw [hU]; exact hP, va_K.moved hW.alike hK⟩⟩ rfl rfl hl.1 rfl (lv_room (Nat.le_of_ble_eq_true rfl)) dL_rolling_4 ⟨Nat.le_of_ble_eq_true rfl, Nat.le_of_ble_eq_true rfl⟩) (va_S.rf (A := hA ad o s.heap.size) (H0 := s.heap)) (fun q _ h => Or.inl h) (fun q h => Or.inl h) (fun q _ h => Or.inl h) (fun E ce q9 u t9 H1 locs1 ht hvm hpx hB hz1 hk1 hS hc1 hc2 hc3 => ?_) (fun r u t9 H1 locs1 ht hvm hw hB hz1 hk1 hS => ?_)
  · obtain ⟨hE, hB⟩ := hB
    have hP1 : va_P D vwCl (cwW Y ad mu) H1 := by rw [← ht]; exact hB.1
    have hPo1 : va_P D vwCl (oW cL o f) H1 := va_P.kept hPo (fun k q hq => hk1 q.1 (va_at.lt (hPo k q hq)) (by rw [oW_o hq]; exact hO_n ho))
    rcases hk with ⟨h0, -⟩ | ⟨h0, rfl⟩
    · exact absurd h0 hpx
    · have hE1 : E = "java/lang/IllegalArgumentException" := by rw [hE, h0]; rfl
      subst hE1
      refine vx_catch hown [] ⟨0, 9, 12, 15⟩ [] (hT.trans rfl) (fun z h => nomatch h) (by decide) (by decide) (hts _ gclL_15) (va_Nw.use rfl hz.2.2.2.1) hc1 hc2 hc3 ?_
      refine lv_astore_n (lv' := [(3, .ref q9), (0, .ref (ad 150)), (1, .int x1), (2, .ref o)]) hx hb dL_rolling_12 rfl hl (by decide) rfl (fun ls hl => ?_)
      refine lv_iconst (v := 1) hx hb dL_rolling_13 (by decide) ?_
      exact hl_iw hx hb hr hlk hK hKo hP1 hPo1 hS (Nat.le_of_ble_eq_true rfl) (Nat.le_of_ble_eq_true rfl) (fun q => absurd q (by decide)) dL_rolling_14
  · obtain ⟨rfl, h0⟩ := hw
    have hP1 : va_P D vwCl (cwW Y ad mu) H1 := by rw [← ht]; exact hB.1
    have hPo1 : va_P D vwCl (oW cL o f) H1 := va_P.kept hPo (fun k q hq => hk1 q.1 (va_at.lt (hPo k q hq)) (by rw [oW_o hq]; exact hO_n ho))
    have hkc : kc = 0 := by
      rcases hk with ⟨_, q⟩ | ⟨q, _⟩
      · exact q
      · exact absurd (q.symm.trans h0) (by decide)
    subst hkc
    refine lv_i2l hx hb dL_rolling_7 rfl ?_
    refine va_last (A := hA ad o s.heap.size) hx hb hKo (vP_c (hPo1 0 _ rfl) hP1) (vD_c (Or.inr rfl) (fun k q hq => by obtain ⟨i, hi, e⟩ := cW_q hq; rw [e]; exact ho.2 i hi) (⟨(cD (Y := Y) (μ := mu) (sz := s.heap.size) hI).1 , fun k q hq => Or.inl ((cD (Y := Y) (μ := mu) (sz := s.heap.size) hI).2 k q hq)⟩)) hS 0 0 rfl rfl (vp_in_nI (n := 0) (by omega) (by omega)) dL_rolling_8 (fun H2 locs2 hP2 _ hS2 => ?_)
    refine lv_goto (tgt := 15) hx hb dL_rolling_9 (by decide) ?_
    refine lv_iconst (v := 0) hx hb dL_rolling_15 (by decide) ?_
    exact hl_iw (g := vp_updL f (Int32.toNatClampNeg 0) ((t.2).toInt64)) hx hb hr hlk hK hKo (fun k q hq => hP2 (k + 1) q hq) (fun k q hq => by cases k with | zero => cases hq; exact hP2 0 _ rfl | succ k => cases hq) hS2 (Nat.le_of_ble_eq_true rfl) (Nat.le_of_ble_eq_true rfl) (fun _ => if_pos rfl) dL_rolling_16
set_option maxRecDepth 100000 in
set_option maxHeartbeats 4000000 in
theorem h6_count (l : Launch) {D : va_G} {Y : cYt} {ad : Nat → Nat} {mu : Nat → Nat → Int32} {cL : ClassId} {o : Nat} {f : Nat → Int64} (hI : cInj ad) (hl0 : l.stackTraces = false) (sz : Nat) (ho : hO ad o sz) (x1 : Int32) {t : Int32 × Int32} (hf : f4_count_0 mu x1 = some t) {kc : Int32} (hk : t.1 = 0 ∧ kc = 0 ∨ t.1 = 2 ∧ kc = 1) : vx_Met l yL_count uL_count rmL (va_Pc [.ref (ad 150), .int x1, .ref o] (fun U => U.heap.size = sz ∧ hZ ad o sz U ∧ hB D Y ad cL o mu f U)) (va_Qi (fun (r9 : Int32) (g : Nat → Int64) => r9 = kc ∧ (kc = 0 → g 0 = (t.2).toInt64)) (fun g t9 => hB D Y ad cL o mu g t9) (hA ad o sz)) (vx_X (fun (_ : Unit) => False) (fun _ _ _ => True) (hA ad o sz)) 3 18 (hA ad o sz) := by
  refine vx_ofWH (cc := cL_count) (maxL := 4) (ret := some .int) (hh := [(0, 9, 12, 15)]) (by decide) rfl ?_
  intro p e s m args below meth c s₁ B hml hv
  obtain ⟨rfl, hsz, ⟨hz, hn⟩, ⟨hP, hK⟩, hPo, hKo⟩ := hv
  subst hsz
  have hx := B.exec
  have hb := B.bytes
  have hr := B.returns
  have hlk := B.notSynchronized
  have hown : s.vm.findClass RL = some m.cls := findClass_of_methodNamed B.named
  have hts : ∀ w ∈ gw, w.before ([.ref (ad 150), .int x1, .ref o] : List Value).toArray s = true := fun w h => atoms_spec (ws := uL_count) B.pre w (List.mem_cons_of_mem _ h)
  have hT : c.exceptionTable.toList = tableOf [(0, 9, 12, 15)] := vx_table (x := yL_count) B (atoms_spec (ws := uL_count) B.pre _ List.mem_cons_self)
  have S : CallFix p m c cL_count 4 s ([.ref (ad 150), .int x1, .ref o] : List Value).toArray gw RL := ⟨hx, hb, hml, hown, hts⟩
  have hl := lv_entry ([.ref (ad 150), .int x1, .ref o]) (n := 4) (Nat.le_of_ble_eq_true rfl)
  rw [lg_entry_eq]
  generalize (lg_sl ([.ref (ad 150), .int x1, .ref o]) ++ List.replicate (4 - (lg_sl ([.ref (ad 150), .int x1, .ref o])).length) Slot.unset).toArray = ls at hl ⊢
  have hl : lv_has ls 4 [(0, .ref (ad 150)), (1, .int x1), (2, .ref o)] := hl
  refine lv_aload_n hx hb dL_count_0 rfl (lv_at hl 2 rfl) ?_
  refine lv_iconst (v := 0) hx hb dL_count_1 (by decide) ?_
  refine lv_aload_n hx hb dL_count_2 rfl (lv_at hl 0 rfl) ?_
  refine lv_iload_n hx hb dL_count_3 rfl (lv_at hl 1 rfl) ?_
  refine vx_calli (vx_runV (As := [.int x1]) (rest := [.int 0, .ref o]) S (c4_count l hI hl0 s.heap.size x1 hf) (cwV 1 hts qL_72 rfl rfl rfl (by decide +kernel) ⟨Nat.le_of_ble_eq_true rfl, Nat.le_of_ble_eq_true rfl⟩) ⟨hc_bl, va_recv hK hP (ci := 4) (q0 := 150) rfl (cw_ate (by omega) rfl), fun U hU hW => ⟨rfl, by rw [hU], zx_at hz hW (fun a _ _ => by rw [hU]) (fun q h => Or.inl h), by rw [hU]; exact hP, va_K.moved hW.alike hK⟩⟩ rfl rfl hl.1 rfl (lv_room (Nat.le_of_ble_eq_true rfl)) dL_count_4 ⟨Nat.le_of_ble_eq_true rfl, Nat.le_of_ble_eq_true rfl⟩) (va_S.rf (A := hA ad o s.heap.size) (H0 := s.heap)) (fun q _ h => Or.inl h) (fun q h => Or.inl h) (fun q _ h => Or.inl h) (fun E ce q9 u t9 H1 locs1 ht hvm hpx hB hz1 hk1 hS hc1 hc2 hc3 => ?_) (fun r u t9 H1 locs1 ht hvm hw hB hz1 hk1 hS => ?_)
  · obtain ⟨hE, hB⟩ := hB
    have hP1 : va_P D vwCl (cwW Y ad mu) H1 := by rw [← ht]; exact hB.1
    have hPo1 : va_P D vwCl (oW cL o f) H1 := va_P.kept hPo (fun k q hq => hk1 q.1 (va_at.lt (hPo k q hq)) (by rw [oW_o hq]; exact hO_n ho))
    rcases hk with ⟨h0, -⟩ | ⟨h0, rfl⟩
    · exact absurd h0 hpx
    · have hE1 : E = "java/lang/IllegalArgumentException" := by rw [hE, h0]; rfl
      subst hE1
      refine vx_catch hown [] ⟨0, 9, 12, 15⟩ [] (hT.trans rfl) (fun z h => nomatch h) (by decide) (by decide) (hts _ gclL_15) (va_Nw.use rfl hz.2.2.2.1) hc1 hc2 hc3 ?_
      refine lv_astore_n (lv' := [(3, .ref q9), (0, .ref (ad 150)), (1, .int x1), (2, .ref o)]) hx hb dL_count_12 rfl hl (by decide) rfl (fun ls hl => ?_)
      refine lv_iconst (v := 1) hx hb dL_count_13 (by decide) ?_
      exact hl_iw hx hb hr hlk hK hKo hP1 hPo1 hS (Nat.le_of_ble_eq_true rfl) (Nat.le_of_ble_eq_true rfl) (fun q => absurd q (by decide)) dL_count_14
  · obtain ⟨rfl, h0⟩ := hw
    have hP1 : va_P D vwCl (cwW Y ad mu) H1 := by rw [← ht]; exact hB.1
    have hPo1 : va_P D vwCl (oW cL o f) H1 := va_P.kept hPo (fun k q hq => hk1 q.1 (va_at.lt (hPo k q hq)) (by rw [oW_o hq]; exact hO_n ho))
    have hkc : kc = 0 := by
      rcases hk with ⟨_, q⟩ | ⟨q, _⟩
      · exact q
      · exact absurd (q.symm.trans h0) (by decide)
    subst hkc
    refine lv_i2l hx hb dL_count_7 rfl ?_
    refine va_last (A := hA ad o s.heap.size) hx hb hKo (vP_c (hPo1 0 _ rfl) hP1) (vD_c (Or.inr rfl) (fun k q hq => by obtain ⟨i, hi, e⟩ := cW_q hq; rw [e]; exact ho.2 i hi) (⟨(cD (Y := Y) (μ := mu) (sz := s.heap.size) hI).1 , fun k q hq => Or.inl ((cD (Y := Y) (μ := mu) (sz := s.heap.size) hI).2 k q hq)⟩)) hS 0 0 rfl rfl (vp_in_nI (n := 0) (by omega) (by omega)) dL_count_8 (fun H2 locs2 hP2 _ hS2 => ?_)
    refine lv_goto (tgt := 15) hx hb dL_count_9 (by decide) ?_
    refine lv_iconst (v := 0) hx hb dL_count_15 (by decide) ?_
    exact hl_iw (g := vp_updL f (Int32.toNatClampNeg 0) ((t.2).toInt64)) hx hb hr hlk hK hKo (fun k q hq => hP2 (k + 1) q hq) (fun k q hq => by cases k with | zero => cases hq; exact hP2 0 _ rfl | succ k => cases hq) hS2 (Nat.le_of_ble_eq_true rfl) (Nat.le_of_ble_eq_true rfl) (fun _ => if_pos rfl) dL_count_16
set_option maxRecDepth 100000 in
set_option maxHeartbeats 4000000 in
theorem h6_refusal (l : Launch) {D : va_G} {Y : cYt} {ad : Nat → Nat} {mu : Nat → Nat → Int32} {cL : ClassId} {o : Nat} {f : Nat → Int64} (hI : cInj ad) (hl0 : l.stackTraces = false) (sz : Nat) (ho : hO ad o sz) (x1 : Int32) (x2 : Int32) {t : Int32 × Int32} (hf : f4_refusal_0 mu x1 x2 = some t) {kc : Int32} (hk : t.1 = 0 ∧ kc = 0 ∨ t.1 = 1 ∧ kc = 1) : vx_Met l yL_refusal uL_refusal rmL (va_Pc [.ref (ad 150), .int x1, .int x2, .ref o] (fun U => U.heap.size = sz ∧ hZ ad o sz U ∧ hB D Y ad cL o mu f U)) (va_Qi (fun (r9 : Int32) (g : Nat → Int64) => r9 = kc ∧ (kc = 0 → g 0 = (t.2).toInt64)) (fun g t9 => hB D Y ad cL o mu g t9) (hA ad o sz)) (vx_X (fun (_ : Unit) => False) (fun _ _ _ => True) (hA ad o sz)) 3 18 (hA ad o sz) := by
  refine vx_ofWH (cc := cL_refusal) (maxL := 5) (ret := some .int) (hh := [(0, 10, 13, 13)]) (by decide) rfl ?_
  intro p e s m args below meth c s₁ B hml hv
  obtain ⟨rfl, hsz, ⟨hz, hn⟩, ⟨hP, hK⟩, hPo, hKo⟩ := hv
  subst hsz
  have hx := B.exec
  have hb := B.bytes
  have hr := B.returns
  have hlk := B.notSynchronized
  have hown : s.vm.findClass RL = some m.cls := findClass_of_methodNamed B.named
  have hts : ∀ w ∈ gw, w.before ([.ref (ad 150), .int x1, .int x2, .ref o] : List Value).toArray s = true := fun w h => atoms_spec (ws := uL_refusal) B.pre w (List.mem_cons_of_mem _ h)
  have hT : c.exceptionTable.toList = tableOf [(0, 10, 13, 13)] := vx_table (x := yL_refusal) B (atoms_spec (ws := uL_refusal) B.pre _ List.mem_cons_self)
  have S : CallFix p m c cL_refusal 5 s ([.ref (ad 150), .int x1, .int x2, .ref o] : List Value).toArray gw RL := ⟨hx, hb, hml, hown, hts⟩
  have hl := lv_entry ([.ref (ad 150), .int x1, .int x2, .ref o]) (n := 5) (Nat.le_of_ble_eq_true rfl)
  rw [lg_entry_eq]
  generalize (lg_sl ([.ref (ad 150), .int x1, .int x2, .ref o]) ++ List.replicate (5 - (lg_sl ([.ref (ad 150), .int x1, .int x2, .ref o])).length) Slot.unset).toArray = ls at hl ⊢
  have hl : lv_has ls 5 [(0, .ref (ad 150)), (1, .int x1), (2, .int x2), (3, .ref o)] := hl
  refine lv_aload_n hx hb dL_refusal_0 rfl (lv_at hl 3 rfl) ?_
  refine lv_iconst (v := 0) hx hb dL_refusal_1 (by decide) ?_
  refine lv_aload_n hx hb dL_refusal_2 rfl (lv_at hl 0 rfl) ?_
  refine lv_iload_n hx hb dL_refusal_3 rfl (lv_at hl 1 rfl) ?_
  refine lv_iload_n hx hb dL_refusal_4 rfl (lv_at hl 2 rfl) ?_
  refine vx_calli (vx_runV (As := [.int x1, .int x2]) (rest := [.int 0, .ref o]) S (c4_refusal l hI hl0 s.heap.size x1 x2 hf) (cwV 2 hts qL_75 rfl rfl rfl (by decide +kernel) ⟨Nat.le_of_ble_eq_true rfl, Nat.le_of_ble_eq_true rfl⟩) ⟨hc_bl, va_recv hK hP (ci := 4) (q0 := 150) rfl (cw_ate (by omega) rfl), fun U hU hW => ⟨rfl, by rw [hU], zx_at hz hW (fun a _ _ => by rw [hU]) (fun q h => Or.inl h), by rw [hU]; exact hP, va_K.moved hW.alike hK⟩⟩ rfl rfl hl.1 rfl (lv_room (Nat.le_of_ble_eq_true rfl)) dL_refusal_5 ⟨Nat.le_of_ble_eq_true rfl, Nat.le_of_ble_eq_true rfl⟩) (va_S.rf (A := hA ad o s.heap.size) (H0 := s.heap)) (fun q _ h => Or.inl h) (fun q h => Or.inl h) (fun q _ h => Or.inl h) (fun E ce q9 u t9 H1 locs1 ht hvm hpx hB hz1 hk1 hS hc1 hc2 hc3 => ?_) (fun r u t9 H1 locs1 ht hvm hw hB hz1 hk1 hS => ?_)
  · obtain ⟨hE, hB⟩ := hB
    have hP1 : va_P D vwCl (cwW Y ad mu) H1 := by rw [← ht]; exact hB.1
    have hPo1 : va_P D vwCl (oW cL o f) H1 := va_P.kept hPo (fun k q hq => hk1 q.1 (va_at.lt (hPo k q hq)) (by rw [oW_o hq]; exact hO_n ho))
    rcases hk with ⟨h0, -⟩ | ⟨h0, rfl⟩
    · exact absurd h0 hpx
    · have hE1 : E = "java/lang/IndexOutOfBoundsException" := by rw [hE, h0]; rfl
      subst hE1
      refine vx_catch hown [] ⟨0, 10, 13, 13⟩ [] (hT.trans rfl) (fun z h => nomatch h) (by decide) (by decide) (hts _ gclL_13) (va_Nw.use rfl hz.2.2.1) hc1 hc2 hc3 ?_
      refine lv_astore (lv' := [(4, .ref q9), (0, .ref (ad 150)), (1, .int x1), (2, .int x2), (3, .ref o)]) hx hb dL_refusal_13 hl (by decide) rfl (fun ls hl => ?_)
      refine lv_iconst (v := 1) hx hb dL_refusal_15 (by decide) ?_
      exact hl_iw hx hb hr hlk hK hKo hP1 hPo1 hS (Nat.le_of_ble_eq_true rfl) (Nat.le_of_ble_eq_true rfl) (fun q => absurd q (by decide)) dL_refusal_16
  · obtain ⟨rfl, h0⟩ := hw
    have hP1 : va_P D vwCl (cwW Y ad mu) H1 := by rw [← ht]; exact hB.1
    have hPo1 : va_P D vwCl (oW cL o f) H1 := va_P.kept hPo (fun k q hq => hk1 q.1 (va_at.lt (hPo k q hq)) (by rw [oW_o hq]; exact hO_n ho))
    have hkc : kc = 0 := by
      rcases hk with ⟨_, q⟩ | ⟨q, _⟩
      · exact q
      · exact absurd (q.symm.trans h0) (by decide)
    subst hkc
    refine lv_i2l hx hb dL_refusal_8 rfl ?_
    refine va_last (A := hA ad o s.heap.size) hx hb hKo (vP_c (hPo1 0 _ rfl) hP1) (vD_c (Or.inr rfl) (fun k q hq => by obtain ⟨i, hi, e⟩ := cW_q hq; rw [e]; exact ho.2 i hi) (⟨(cD (Y := Y) (μ := mu) (sz := s.heap.size) hI).1 , fun k q hq => Or.inl ((cD (Y := Y) (μ := mu) (sz := s.heap.size) hI).2 k q hq)⟩)) hS 0 0 rfl rfl (vp_in_nI (n := 0) (by omega) (by omega)) dL_refusal_9 (fun H2 locs2 hP2 _ hS2 => ?_)
    refine lv_goto (tgt := 17) hx hb dL_refusal_10 (by decide) ?_
    refine lv_iconst (v := 0) hx hb dL_refusal_17 (by decide) ?_
    exact hl_iw (g := vp_updL f (Int32.toNatClampNeg 0) ((t.2).toInt64)) hx hb hr hlk hK hKo (fun k q hq => hP2 (k + 1) q hq) (fun k q hq => by cases k with | zero => cases hq; exact hP2 0 _ rfl | succ k => cases hq) hS2 (Nat.le_of_ble_eq_true rfl) (Nat.le_of_ble_eq_true rfl) (fun _ => if_pos rfl) dL_refusal_18
set_option maxRecDepth 100000 in
set_option maxHeartbeats 4000000 in
theorem h6_ifAlone (l : Launch) {D : va_G} {Y : cYt} {ad : Nat → Nat} {mu : Nat → Nat → Int32} {cL : ClassId} {o : Nat} {f : Nat → Int64} (hI : cInj ad) (hl0 : l.stackTraces = false) (sz : Nat) (ho : hO ad o sz) (x1 : Int32) (x2 : Int32) (x3 : Int32) {t : Int32 × Int32 × (Nat → Nat → Int32)} (hf : f4_ifAlone_0 x1 x2 x3 mu = some t) {kc : Int32} (hk : t.1 = 0 ∧ kc = 0 ∨ t.1 = 2 ∧ kc = 1) : vx_Met l yL_ifAlone uL_ifAlone rmL (va_Pc [.ref (ad 150), .int x1, .int x2, .int x3, .ref o] (fun U => U.heap.size = sz ∧ hZ ad o sz U ∧ hB D Y ad cL o mu f U)) (va_Qi (fun (r9 : Int32) (g : Nat → Int64) => r9 = kc ∧ (kc = 0 → g 0 = (t.2.1).toInt64)) (fun g t9 => hB D Y ad cL o t.2.2 g t9) (hA ad o sz)) (vx_X (fun (_ : Unit) => False) (fun _ _ _ => True) (hA ad o sz)) 3 18 (hA ad o sz) := by
  refine vx_ofWH (cc := cL_ifAlone) (maxL := 6) (ret := some .int) (hh := [(0, 12, 15, 15)]) (by decide) rfl ?_
  intro p e s m args below meth c s₁ B hml hv
  obtain ⟨rfl, hsz, ⟨hz, hn⟩, ⟨hP, hK⟩, hPo, hKo⟩ := hv
  subst hsz
  have hx := B.exec
  have hb := B.bytes
  have hr := B.returns
  have hlk := B.notSynchronized
  have hown : s.vm.findClass RL = some m.cls := findClass_of_methodNamed B.named
  have hts : ∀ w ∈ gw, w.before ([.ref (ad 150), .int x1, .int x2, .int x3, .ref o] : List Value).toArray s = true := fun w h => atoms_spec (ws := uL_ifAlone) B.pre w (List.mem_cons_of_mem _ h)
  have hT : c.exceptionTable.toList = tableOf [(0, 12, 15, 15)] := vx_table (x := yL_ifAlone) B (atoms_spec (ws := uL_ifAlone) B.pre _ List.mem_cons_self)
  have S : CallFix p m c cL_ifAlone 6 s ([.ref (ad 150), .int x1, .int x2, .int x3, .ref o] : List Value).toArray gw RL := ⟨hx, hb, hml, hown, hts⟩
  have hl := lv_entry ([.ref (ad 150), .int x1, .int x2, .int x3, .ref o]) (n := 6) (Nat.le_of_ble_eq_true rfl)
  rw [lg_entry_eq]
  generalize (lg_sl ([.ref (ad 150), .int x1, .int x2, .int x3, .ref o]) ++ List.replicate (6 - (lg_sl ([.ref (ad 150), .int x1, .int x2, .int x3, .ref o])).length) Slot.unset).toArray = ls at hl ⊢
  have hl : lv_has ls 6 [(0, .ref (ad 150)), (1, .int x1), (2, .int x2), (3, .int x3), (4, .ref o)] := hl
  refine lv_aload hx hb dL_ifAlone_0 (lv_at hl 4 rfl) ?_
  refine lv_iconst (v := 0) hx hb dL_ifAlone_2 (by decide) ?_
  refine lv_aload_n hx hb dL_ifAlone_3 rfl (lv_at hl 0 rfl) ?_
  refine lv_iload_n hx hb dL_ifAlone_4 rfl (lv_at hl 1 rfl) ?_
  refine lv_iload_n hx hb dL_ifAlone_5 rfl (lv_at hl 2 rfl) ?_
  refine lv_iload_n hx hb dL_ifAlone_6 rfl (lv_at hl 3 rfl) ?_
  refine vx_calli (vx_runV (As := [.int x1, .int x2, .int x3]) (rest := [.int 0, .ref o]) S (c4_ifAlone l hI hl0 s.heap.size x1 x2 x3 hf) (cwV 3 hts qL_79 rfl rfl rfl (by decide +kernel) ⟨Nat.le_of_ble_eq_true rfl, Nat.le_of_ble_eq_true rfl⟩) ⟨hc_bl, va_recv hK hP (ci := 4) (q0 := 150) rfl (cw_ate (by omega) rfl), fun U hU hW => ⟨rfl, by rw [hU], zx_at hz hW (fun a _ _ => by rw [hU]) (fun q h => Or.inl h), by rw [hU]; exact hP, va_K.moved hW.alike hK⟩⟩ rfl rfl hl.1 rfl (lv_room (Nat.le_of_ble_eq_true rfl)) dL_ifAlone_7 ⟨Nat.le_of_ble_eq_true rfl, Nat.le_of_ble_eq_true rfl⟩) (va_S.rf (A := hA ad o s.heap.size) (H0 := s.heap)) (fun q _ h => Or.inl h) (fun q h => Or.inl h) (fun q _ h => Or.inl h) (fun E ce q9 u t9 H1 locs1 ht hvm hpx hB hz1 hk1 hS hc1 hc2 hc3 => ?_) (fun r u t9 H1 locs1 ht hvm hw hB hz1 hk1 hS => ?_)
  · obtain ⟨hE, hB⟩ := hB
    have hP1 : va_P D vwCl (cwW Y ad t.2.2) H1 := by rw [← ht]; exact hB.1
    have hPo1 : va_P D vwCl (oW cL o f) H1 := va_P.kept hPo (fun k q hq => hk1 q.1 (va_at.lt (hPo k q hq)) (by rw [oW_o hq]; exact hO_n ho))
    rcases hk with ⟨h0, -⟩ | ⟨h0, rfl⟩
    · exact absurd h0 hpx
    · have hE1 : E = "java/lang/IllegalArgumentException" := by rw [hE, h0]; rfl
      subst hE1
      refine vx_catch hown [] ⟨0, 12, 15, 15⟩ [] (hT.trans rfl) (fun z h => nomatch h) (by decide) (by decide) (hts _ gclL_15) (va_Nw.use rfl hz.2.2.2.1) hc1 hc2 hc3 ?_
      refine lv_astore (lv' := [(5, .ref q9), (0, .ref (ad 150)), (1, .int x1), (2, .int x2), (3, .int x3), (4, .ref o)]) hx hb dL_ifAlone_15 hl (by decide) rfl (fun ls hl => ?_)
      refine lv_iconst (v := 1) hx hb dL_ifAlone_17 (by decide) ?_
      exact hl_iw hx hb hr hlk hK hKo hP1 hPo1 hS (Nat.le_of_ble_eq_true rfl) (Nat.le_of_ble_eq_true rfl) (fun q => absurd q (by decide)) dL_ifAlone_18
  · obtain ⟨rfl, h0⟩ := hw
    have hP1 : va_P D vwCl (cwW Y ad t.2.2) H1 := by rw [← ht]; exact hB.1
    have hPo1 : va_P D vwCl (oW cL o f) H1 := va_P.kept hPo (fun k q hq => hk1 q.1 (va_at.lt (hPo k q hq)) (by rw [oW_o hq]; exact hO_n ho))
    have hkc : kc = 0 := by
      rcases hk with ⟨_, q⟩ | ⟨q, _⟩
      · exact q
      · exact absurd (q.symm.trans h0) (by decide)
    subst hkc
    refine lv_i2l hx hb dL_ifAlone_10 rfl ?_
    refine va_last (A := hA ad o s.heap.size) hx hb hKo (vP_c (hPo1 0 _ rfl) hP1) (vD_c (Or.inr rfl) (fun k q hq => by obtain ⟨i, hi, e⟩ := cW_q hq; rw [e]; exact ho.2 i hi) (⟨(cD (Y := Y) (μ := t.2.2) (sz := s.heap.size) hI).1 , fun k q hq => Or.inl ((cD (Y := Y) (μ := t.2.2) (sz := s.heap.size) hI).2 k q hq)⟩)) hS 0 0 rfl rfl (vp_in_nI (n := 0) (by omega) (by omega)) dL_ifAlone_11 (fun H2 locs2 hP2 _ hS2 => ?_)
    refine lv_goto (tgt := 19) hx hb dL_ifAlone_12 (by decide) ?_
    refine lv_iconst (v := 0) hx hb dL_ifAlone_19 (by decide) ?_
    exact hl_iw (g := vp_updL f (Int32.toNatClampNeg 0) ((t.2.1).toInt64)) hx hb hr hlk hK hKo (fun k q hq => hP2 (k + 1) q hq) (fun k q hq => by cases k with | zero => cases hq; exact hP2 0 _ rfl | succ k => cases hq) hS2 (Nat.le_of_ble_eq_true rfl) (Nat.le_of_ble_eq_true rfl) (fun _ => if_pos rfl) dL_ifAlone_20
set_option maxRecDepth 100000 in
set_option maxHeartbeats 4000000 in
theorem h6_leastBrake (l : Launch) {D : va_G} {Y : cYt} {ad : Nat → Nat} {mu : Nat → Nat → Int32} {cL : ClassId} {o : Nat} {f : Nat → Int64} (hI : cInj ad) (hl0 : l.stackTraces = false) (sz : Nat) (ho : hO ad o sz) (x1 : Int32) {t : Int32 × Int32 × (Nat → Nat → Int32)} (hf : f4_leastBrake_0 x1 mu = some t) {kc : Int32} (hk : t.1 = 0 ∧ kc = 0 ∨ t.1 = 2 ∧ kc = 1) : vx_Met l yL_leastBrake uL_leastBrake rmL (va_Pc [.ref (ad 150), .int x1, .ref o] (fun U => U.heap.size = sz ∧ hZ ad o sz U ∧ hB D Y ad cL o mu f U)) (va_Qi (fun (r9 : Int32) (g : Nat → Int64) => r9 = kc ∧ (kc = 0 → g 0 = (t.2.1).toInt64)) (fun g t9 => hB D Y ad cL o t.2.2 g t9) (hA ad o sz)) (vx_X (fun (_ : Unit) => False) (fun _ _ _ => True) (hA ad o sz)) 3 18 (hA ad o sz) := by
  refine vx_ofWH (cc := cL_leastBrake) (maxL := 4) (ret := some .int) (hh := [(0, 9, 12, 15)]) (by decide) rfl ?_
  intro p e s m args below meth c s₁ B hml hv
  obtain ⟨rfl, hsz, ⟨hz, hn⟩, ⟨hP, hK⟩, hPo, hKo⟩ := hv
  subst hsz
  have hx := B.exec
  have hb := B.bytes
  have hr := B.returns
  have hlk := B.notSynchronized
  have hown : s.vm.findClass RL = some m.cls := findClass_of_methodNamed B.named
  have hts : ∀ w ∈ gw, w.before ([.ref (ad 150), .int x1, .ref o] : List Value).toArray s = true := fun w h => atoms_spec (ws := uL_leastBrake) B.pre w (List.mem_cons_of_mem _ h)
  have hT : c.exceptionTable.toList = tableOf [(0, 9, 12, 15)] := vx_table (x := yL_leastBrake) B (atoms_spec (ws := uL_leastBrake) B.pre _ List.mem_cons_self)
  have S : CallFix p m c cL_leastBrake 4 s ([.ref (ad 150), .int x1, .ref o] : List Value).toArray gw RL := ⟨hx, hb, hml, hown, hts⟩
  have hl := lv_entry ([.ref (ad 150), .int x1, .ref o]) (n := 4) (Nat.le_of_ble_eq_true rfl)
  rw [lg_entry_eq]
  generalize (lg_sl ([.ref (ad 150), .int x1, .ref o]) ++ List.replicate (4 - (lg_sl ([.ref (ad 150), .int x1, .ref o])).length) Slot.unset).toArray = ls at hl ⊢
  have hl : lv_has ls 4 [(0, .ref (ad 150)), (1, .int x1), (2, .ref o)] := hl
  refine lv_aload_n hx hb dL_leastBrake_0 rfl (lv_at hl 2 rfl) ?_
  refine lv_iconst (v := 0) hx hb dL_leastBrake_1 (by decide) ?_
  refine lv_aload_n hx hb dL_leastBrake_2 rfl (lv_at hl 0 rfl) ?_
  refine lv_iload_n hx hb dL_leastBrake_3 rfl (lv_at hl 1 rfl) ?_
  refine vx_calli (vx_runV (As := [.int x1]) (rest := [.int 0, .ref o]) S (c4_leastBrake l hI hl0 s.heap.size x1 hf) (cwV 1 hts qL_83 rfl rfl rfl (by decide +kernel) ⟨Nat.le_of_ble_eq_true rfl, Nat.le_of_ble_eq_true rfl⟩) ⟨hc_bl, va_recv hK hP (ci := 4) (q0 := 150) rfl (cw_ate (by omega) rfl), fun U hU hW => ⟨rfl, by rw [hU], zx_at hz hW (fun a _ _ => by rw [hU]) (fun q h => Or.inl h), by rw [hU]; exact hP, va_K.moved hW.alike hK⟩⟩ rfl rfl hl.1 rfl (lv_room (Nat.le_of_ble_eq_true rfl)) dL_leastBrake_4 ⟨Nat.le_of_ble_eq_true rfl, Nat.le_of_ble_eq_true rfl⟩) (va_S.rf (A := hA ad o s.heap.size) (H0 := s.heap)) (fun q _ h => Or.inl h) (fun q h => Or.inl h) (fun q _ h => Or.inl h) (fun E ce q9 u t9 H1 locs1 ht hvm hpx hB hz1 hk1 hS hc1 hc2 hc3 => ?_) (fun r u t9 H1 locs1 ht hvm hw hB hz1 hk1 hS => ?_)
  · obtain ⟨hE, hB⟩ := hB
    have hP1 : va_P D vwCl (cwW Y ad t.2.2) H1 := by rw [← ht]; exact hB.1
    have hPo1 : va_P D vwCl (oW cL o f) H1 := va_P.kept hPo (fun k q hq => hk1 q.1 (va_at.lt (hPo k q hq)) (by rw [oW_o hq]; exact hO_n ho))
    rcases hk with ⟨h0, -⟩ | ⟨h0, rfl⟩
    · exact absurd h0 hpx
    · have hE1 : E = "java/lang/IllegalArgumentException" := by rw [hE, h0]; rfl
      subst hE1
      refine vx_catch hown [] ⟨0, 9, 12, 15⟩ [] (hT.trans rfl) (fun z h => nomatch h) (by decide) (by decide) (hts _ gclL_15) (va_Nw.use rfl hz.2.2.2.1) hc1 hc2 hc3 ?_
      refine lv_astore_n (lv' := [(3, .ref q9), (0, .ref (ad 150)), (1, .int x1), (2, .ref o)]) hx hb dL_leastBrake_12 rfl hl (by decide) rfl (fun ls hl => ?_)
      refine lv_iconst (v := 1) hx hb dL_leastBrake_13 (by decide) ?_
      exact hl_iw hx hb hr hlk hK hKo hP1 hPo1 hS (Nat.le_of_ble_eq_true rfl) (Nat.le_of_ble_eq_true rfl) (fun q => absurd q (by decide)) dL_leastBrake_14
  · obtain ⟨rfl, h0⟩ := hw
    have hP1 : va_P D vwCl (cwW Y ad t.2.2) H1 := by rw [← ht]; exact hB.1
    have hPo1 : va_P D vwCl (oW cL o f) H1 := va_P.kept hPo (fun k q hq => hk1 q.1 (va_at.lt (hPo k q hq)) (by rw [oW_o hq]; exact hO_n ho))
    have hkc : kc = 0 := by
      rcases hk with ⟨_, q⟩ | ⟨q, _⟩
      · exact q
      · exact absurd (q.symm.trans h0) (by decide)
    subst hkc
    refine lv_i2l hx hb dL_leastBrake_7 rfl ?_
    refine va_last (A := hA ad o s.heap.size) hx hb hKo (vP_c (hPo1 0 _ rfl) hP1) (vD_c (Or.inr rfl) (fun k q hq => by obtain ⟨i, hi, e⟩ := cW_q hq; rw [e]; exact ho.2 i hi) (⟨(cD (Y := Y) (μ := t.2.2) (sz := s.heap.size) hI).1 , fun k q hq => Or.inl ((cD (Y := Y) (μ := t.2.2) (sz := s.heap.size) hI).2 k q hq)⟩)) hS 0 0 rfl rfl (vp_in_nI (n := 0) (by omega) (by omega)) dL_leastBrake_8 (fun H2 locs2 hP2 _ hS2 => ?_)
    refine lv_goto (tgt := 15) hx hb dL_leastBrake_9 (by decide) ?_
    refine lv_iconst (v := 0) hx hb dL_leastBrake_15 (by decide) ?_
    exact hl_iw (g := vp_updL f (Int32.toNatClampNeg 0) ((t.2.1).toInt64)) hx hb hr hlk hK hKo (fun k q hq => hP2 (k + 1) q hq) (fun k q hq => by cases k with | zero => cases hq; exact hP2 0 _ rfl | succ k => cases hq) hS2 (Nat.le_of_ble_eq_true rfl) (Nat.le_of_ble_eq_true rfl) (fun _ => if_pos rfl) dL_leastBrake_16
set_option maxRecDepth 100000 in
set_option maxHeartbeats 4000000 in
theorem h6_ifRun (l : Launch) {D : va_G} {Y : cYt} {ad : Nat → Nat} {mu : Nat → Nat → Int32} {cL : ClassId} {o : Nat} {f : Nat → Int64} (hI : cInj ad) (hl0 : l.stackTraces = false) (sz : Nat) (ho : hO ad o sz) (x1 : Int32) (x2 : Int32) {t : Int32 × Int32 × (Nat → Nat → Int32)} (hf : f4_ifRun_0 x1 x2 mu = some t) {kc : Int32} (hk : t.1 = 0 ∧ kc = 0 ∨ t.1 = 2 ∧ kc = 1) : vx_Met l yL_ifRun uL_ifRun rmL (va_Pc [.ref (ad 150), .int x1, .int x2, .ref o] (fun U => U.heap.size = sz ∧ hZ ad o sz U ∧ hB D Y ad cL o mu f U)) (va_Qi (fun (r9 : Int32) (g : Nat → Int64) => r9 = kc ∧ (kc = 0 → g 0 = (t.2.1).toInt64)) (fun g t9 => hB D Y ad cL o t.2.2 g t9) (hA ad o sz)) (vx_X (fun (_ : Unit) => False) (fun _ _ _ => True) (hA ad o sz)) 3 18 (hA ad o sz) := by
  refine vx_ofWH (cc := cL_ifRun) (maxL := 5) (ret := some .int) (hh := [(0, 10, 13, 15)]) (by decide) rfl ?_
  intro p e s m args below meth c s₁ B hml hv
  obtain ⟨rfl, hsz, ⟨hz, hn⟩, ⟨hP, hK⟩, hPo, hKo⟩ := hv
  subst hsz
  have hx := B.exec
  have hb := B.bytes
  have hr := B.returns
  have hlk := B.notSynchronized
  have hown : s.vm.findClass RL = some m.cls := findClass_of_methodNamed B.named
  have hts : ∀ w ∈ gw, w.before ([.ref (ad 150), .int x1, .int x2, .ref o] : List Value).toArray s = true := fun w h => atoms_spec (ws := uL_ifRun) B.pre w (List.mem_cons_of_mem _ h)
  have hT : c.exceptionTable.toList = tableOf [(0, 10, 13, 15)] := vx_table (x := yL_ifRun) B (atoms_spec (ws := uL_ifRun) B.pre _ List.mem_cons_self)
  have S : CallFix p m c cL_ifRun 5 s ([.ref (ad 150), .int x1, .int x2, .ref o] : List Value).toArray gw RL := ⟨hx, hb, hml, hown, hts⟩
  have hl := lv_entry ([.ref (ad 150), .int x1, .int x2, .ref o]) (n := 5) (Nat.le_of_ble_eq_true rfl)
  rw [lg_entry_eq]
  generalize (lg_sl ([.ref (ad 150), .int x1, .int x2, .ref o]) ++ List.replicate (5 - (lg_sl ([.ref (ad 150), .int x1, .int x2, .ref o])).length) Slot.unset).toArray = ls at hl ⊢
  have hl : lv_has ls 5 [(0, .ref (ad 150)), (1, .int x1), (2, .int x2), (3, .ref o)] := hl
  refine lv_aload_n hx hb dL_ifRun_0 rfl (lv_at hl 3 rfl) ?_
  refine lv_iconst (v := 0) hx hb dL_ifRun_1 (by decide) ?_
  refine lv_aload_n hx hb dL_ifRun_2 rfl (lv_at hl 0 rfl) ?_
  refine lv_iload_n hx hb dL_ifRun_3 rfl (lv_at hl 1 rfl) ?_
  refine lv_iload_n hx hb dL_ifRun_4 rfl (lv_at hl 2 rfl) ?_
  refine vx_calli (vx_runV (As := [.int x1, .int x2]) (rest := [.int 0, .ref o]) S (c4_ifRun l hI hl0 s.heap.size x1 x2 hf) (cwV 2 hts qL_86 rfl rfl rfl (by decide +kernel) ⟨Nat.le_of_ble_eq_true rfl, Nat.le_of_ble_eq_true rfl⟩) ⟨hc_bl, va_recv hK hP (ci := 4) (q0 := 150) rfl (cw_ate (by omega) rfl), fun U hU hW => ⟨rfl, by rw [hU], zx_at hz hW (fun a _ _ => by rw [hU]) (fun q h => Or.inl h), by rw [hU]; exact hP, va_K.moved hW.alike hK⟩⟩ rfl rfl hl.1 rfl (lv_room (Nat.le_of_ble_eq_true rfl)) dL_ifRun_5 ⟨Nat.le_of_ble_eq_true rfl, Nat.le_of_ble_eq_true rfl⟩) (va_S.rf (A := hA ad o s.heap.size) (H0 := s.heap)) (fun q _ h => Or.inl h) (fun q h => Or.inl h) (fun q _ h => Or.inl h) (fun E ce q9 u t9 H1 locs1 ht hvm hpx hB hz1 hk1 hS hc1 hc2 hc3 => ?_) (fun r u t9 H1 locs1 ht hvm hw hB hz1 hk1 hS => ?_)
  · obtain ⟨hE, hB⟩ := hB
    have hP1 : va_P D vwCl (cwW Y ad t.2.2) H1 := by rw [← ht]; exact hB.1
    have hPo1 : va_P D vwCl (oW cL o f) H1 := va_P.kept hPo (fun k q hq => hk1 q.1 (va_at.lt (hPo k q hq)) (by rw [oW_o hq]; exact hO_n ho))
    rcases hk with ⟨h0, -⟩ | ⟨h0, rfl⟩
    · exact absurd h0 hpx
    · have hE1 : E = "java/lang/IllegalArgumentException" := by rw [hE, h0]; rfl
      subst hE1
      refine vx_catch hown [] ⟨0, 10, 13, 15⟩ [] (hT.trans rfl) (fun z h => nomatch h) (by decide) (by decide) (hts _ gclL_15) (va_Nw.use rfl hz.2.2.2.1) hc1 hc2 hc3 ?_
      refine lv_astore (lv' := [(4, .ref q9), (0, .ref (ad 150)), (1, .int x1), (2, .int x2), (3, .ref o)]) hx hb dL_ifRun_13 hl (by decide) rfl (fun ls hl => ?_)
      refine lv_iconst (v := 1) hx hb dL_ifRun_15 (by decide) ?_
      exact hl_iw hx hb hr hlk hK hKo hP1 hPo1 hS (Nat.le_of_ble_eq_true rfl) (Nat.le_of_ble_eq_true rfl) (fun q => absurd q (by decide)) dL_ifRun_16
  · obtain ⟨rfl, h0⟩ := hw
    have hP1 : va_P D vwCl (cwW Y ad t.2.2) H1 := by rw [← ht]; exact hB.1
    have hPo1 : va_P D vwCl (oW cL o f) H1 := va_P.kept hPo (fun k q hq => hk1 q.1 (va_at.lt (hPo k q hq)) (by rw [oW_o hq]; exact hO_n ho))
    have hkc : kc = 0 := by
      rcases hk with ⟨_, q⟩ | ⟨q, _⟩
      · exact q
      · exact absurd (q.symm.trans h0) (by decide)
    subst hkc
    refine lv_i2l hx hb dL_ifRun_8 rfl ?_
    refine va_last (A := hA ad o s.heap.size) hx hb hKo (vP_c (hPo1 0 _ rfl) hP1) (vD_c (Or.inr rfl) (fun k q hq => by obtain ⟨i, hi, e⟩ := cW_q hq; rw [e]; exact ho.2 i hi) (⟨(cD (Y := Y) (μ := t.2.2) (sz := s.heap.size) hI).1 , fun k q hq => Or.inl ((cD (Y := Y) (μ := t.2.2) (sz := s.heap.size) hI).2 k q hq)⟩)) hS 0 0 rfl rfl (vp_in_nI (n := 0) (by omega) (by omega)) dL_ifRun_9 (fun H2 locs2 hP2 _ hS2 => ?_)
    refine lv_goto (tgt := 17) hx hb dL_ifRun_10 (by decide) ?_
    refine lv_iconst (v := 0) hx hb dL_ifRun_17 (by decide) ?_
    exact hl_iw (g := vp_updL f (Int32.toNatClampNeg 0) ((t.2.1).toInt64)) hx hb hr hlk hK hKo (fun k q hq => hP2 (k + 1) q hq) (fun k q hq => by cases k with | zero => cases hq; exact hP2 0 _ rfl | succ k => cases hq) hS2 (Nat.le_of_ble_eq_true rfl) (Nat.le_of_ble_eq_true rfl) (fun _ => if_pos rfl) dL_ifRun_18
