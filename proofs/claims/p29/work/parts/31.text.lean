/-! OreRailway$OrderText.addSign(C)Z -/
def rm2_addSign : Room := { frames := 0, cells := 0, slots := 0, locals := 0 }
def f2_addSign_38 (v0 : Nat → Int32) : Option (Int32 × (Nat → Int32)) := some (1, v0)
set_option maxRecDepth 100000 in
set_option maxHeartbeats 4000000 in
theorem w2_addSign_38 {p : Program} {l : Launch} {e : Env} {s : State} {m : MethodId} {args : Array Value} {below : List Frame} {meth : Method} {c : Code} {D : va_G} {Y : cYt} {ad : Nat → Nat} {μ : Nat → Nat → Int32} {v0 : Nat → Int32} (X : cX D Y p s m args meth c cX2_addSign 2 RX2 (some .boolean)) (hI : cInj ad)  {t : Int32 × (Nat → Int32)}  {H : Heap} {locs : List Loc} (hH : cH D Y ad (s1 μ 12 v0) s H locs) {ls : Array Slot} (hl : lv_has ls 2 []) (hf : f2_addSign_38 v0 = some t) : W p l e rm2_addSign s m args below meth c H locs 0 0 (MQ below (va_Qi (fun (r9 : Int32) (_ : Unit) => r9 = t.1) (fun _ t9 => cB D Y ad (s1 μ 12 t.2) t9) (cA ad s.heap.size)) args s 0 0 (cA ad s.heap.size)) (F0 m 38 ls []) := by
  obtain ⟨⟨hx, hb, hml, hown, hts⟩, hr, hlk, hK⟩ := id X
  replace hf : (some (1, v0)) = some t := hf
  refine lv_iconst (v := 1) hx hb dX2_addSign_38 (by decide) ?_
  obtain rfl := so_i hf
  exact cr_zw X hH rfl (nz_z (Or.inr rfl)) dX2_addSign_39
def f2_addSign_16 (v0 : Nat → Int32) : Option (Int32 × (Nat → Int32)) := some (0, v0)
set_option maxRecDepth 100000 in
set_option maxHeartbeats 4000000 in
theorem w2_addSign_16 {p : Program} {l : Launch} {e : Env} {s : State} {m : MethodId} {args : Array Value} {below : List Frame} {meth : Method} {c : Code} {D : va_G} {Y : cYt} {ad : Nat → Nat} {μ : Nat → Nat → Int32} {v0 : Nat → Int32} (X : cX D Y p s m args meth c cX2_addSign 2 RX2 (some .boolean)) (hI : cInj ad)  {t : Int32 × (Nat → Int32)}  {H : Heap} {locs : List Loc} (hH : cH D Y ad (s1 μ 12 v0) s H locs) {ls : Array Slot} (hl : lv_has ls 2 []) (hf : f2_addSign_16 v0 = some t) : W p l e rm2_addSign s m args below meth c H locs 0 0 (MQ below (va_Qi (fun (r9 : Int32) (_ : Unit) => r9 = t.1) (fun _ t9 => cB D Y ad (s1 μ 12 t.2) t9) (cA ad s.heap.size)) args s 0 0 (cA ad s.heap.size)) (F0 m 16 ls []) := by
  obtain ⟨⟨hx, hb, hml, hown, hts⟩, hr, hlk, hK⟩ := id X
  replace hf : (some (0, v0)) = some t := hf
  refine lv_iconst (v := 0) hx hb dX2_addSign_16 (by decide) ?_
  obtain rfl := so_i hf
  exact cr_zw X hH rfl (nz_z (Or.inl rfl)) dX2_addSign_17
def f2_addSign_0 (x1 : Int32) (v0 : Nat → Int32) : Option (Int32 × (Nat → Int32)) := if (v0 60) < 0 then (f2_addSign_16 v0) else (if (v0 60) < 60 then (gd (v0 60) 60 (f2_addSign_38 (upd (upd v0 (Int32.toNatClampNeg (v0 60)) (vp_nar .char x1)) 60 (((upd v0 (Int32.toNatClampNeg (v0 60)) (vp_nar .char x1)) 60) + 1)))) else (f2_addSign_16 v0))
set_option maxRecDepth 100000 in
set_option maxHeartbeats 4000000 in
theorem w2_addSign_0 {p : Program} {l : Launch} {e : Env} {s : State} {m : MethodId} {args : Array Value} {below : List Frame} {meth : Method} {c : Code} {D : va_G} {Y : cYt} {ad : Nat → Nat} {μ : Nat → Nat → Int32} {v0 : Nat → Int32} (X : cX D Y p s m args meth c cX2_addSign 2 RX2 (some .boolean)) (hI : cInj ad)  {x1 : Int32} {t : Int32 × (Nat → Int32)}  {H : Heap} {locs : List Loc} (hH : cH D Y ad (s1 μ 12 v0) s H locs) {ls : Array Slot} (hl : lv_has ls 2 [(0, .ref (ad 155)), (1, .int x1)]) (hf : f2_addSign_0 x1 v0 = some t) : W p l e rm2_addSign s m args below meth c H locs 0 0 (MQ below (va_Qi (fun (r9 : Int32) (_ : Unit) => r9 = t.1) (fun _ t9 => cB D Y ad (s1 μ 12 t.2) t9) (cA ad s.heap.size)) args s 0 0 (cA ad s.heap.size)) (F0 m 0 ls []) := by
  obtain ⟨⟨hx, hb, hml, hown, hts⟩, hr, hlk, hK⟩ := id X
  replace hf : (if (v0 60) < 0 then (f2_addSign_16 v0) else (if (v0 60) < 60 then (gd (v0 60) 60 (f2_addSign_38 (upd (upd v0 (Int32.toNatClampNeg (v0 60)) (vp_nar .char x1)) 60 (((upd v0 (Int32.toNatClampNeg (v0 60)) (vp_nar .char x1)) 60) + 1)))) else (f2_addSign_16 v0))) = some t := hf
  refine lv_aload_n hx hb dX2_addSign_0 rfl (lv_at hl 0 rfl) ?_
  refine cr_gOr X s1_k hH.1 (i := 1) (v := .int (v0 60)) (by decide) gfX2_15 rfl dX2_addSign_1 ?_
  refine lv_if_lt (tgt := 16) hx hb dX2_addSign_4 (by decide) (fun c1 => ?_) (fun c1 => ?_)
  · have hf := it_t c1 hf
    exact w2_addSign_16 X hI hH (lv_sub hl [] rfl) hf
  · have hf := it_f c1 hf
    refine lv_aload_n hx hb dX2_addSign_7 rfl (lv_at hl 0 rfl) ?_
    refine cr_gOr X s1_k hH.1 (i := 1) (v := .int (v0 60)) (by decide) gfX2_15 rfl dX2_addSign_8 ?_
    refine lv_bipush (v := 60) hx hb dX2_addSign_11 (by decide) ?_
    refine lv_icmp_lt (tgt := 18) hx hb dX2_addSign_13 (by decide) (fun c2 => ?_) (fun c2 => ?_)
    · have hf := it_t c2 hf
      refine lv_aload_n hx hb dX2_addSign_18 rfl (lv_at hl 0 rfl) ?_
      refine cr_gOr X s1_k hH.1 (i := 0) (v := .ref (ad 156)) (by decide) gfX2_9 rfl dX2_addSign_19 ?_
      refine lv_aload_n hx hb dX2_addSign_22 rfl (lv_at hl 0 rfl) ?_
      refine cr_gOr X s1_k hH.1 (i := 1) (v := .int (v0 60)) (by decide) gfX2_15 rfl dX2_addSign_23 ?_
      refine lv_iload_n hx hb dX2_addSign_26 rfl (lv_at hl 1 rfl) ?_
      obtain ⟨hi3, hf⟩ := gd_o hf
      refine cv_stt X hI hH hi3 dX2_addSign_27 (fun H locs hH => ?_)
      refine lv_aload_n hx hb dX2_addSign_28 rfl (lv_at hl 0 rfl) ?_
      refine lv_dup hx hb dX2_addSign_29 rfl ?_
      refine cr_gOr X s1_k hH.1 (i := 1) (v := .int ((upd v0 (Int32.toNatClampNeg (v0 60)) (vp_nar .char x1)) 60)) (by decide) gfX2_15 rfl dX2_addSign_30 ?_
      refine lv_iconst (v := 1) hx hb dX2_addSign_33 (by decide) ?_
      refine lv_iadd hx hb dX2_addSign_34 ?_
      refine cv_pOr X hI hH 1 rfl gfX2_15 dX2_addSign_35 (fun H locs hH => ?_)
      exact w2_addSign_38 X hI hH (lv_sub hl [] rfl) hf
    · have hf := it_f c2 hf
      exact w2_addSign_16 X hI hH (lv_sub hl [] rfl) hf
set_option maxRecDepth 100000 in
set_option maxHeartbeats 4000000 in
theorem c2_addSign (l : Launch) {D : va_G} {Y : cYt} {ad : Nat → Nat} {μ : Nat → Nat → Int32} (hI : cInj ad) (sz : Nat) (x1 : Int32) {t : Int32 × (Nat → Int32)} (hf : f2_addSign_0 x1 (μ 12) = some t) : Met l yX2_addSign uX2_addSign rm2_addSign (va_Pc [.ref (ad 155), .int x1] (fun U => U.heap.size = sz ∧ cB D Y ad μ U)) (va_Qi (fun (r9 : Int32) (_ : Unit) => r9 = t.1) (fun _ t9 => cB D Y ad (s1 μ 12 t.2) t9) (cA ad sz)) 0 0 (cA ad sz) := by
  refine Met.ofW (cc := cX2_addSign) (maxL := 2) (ret := (some .boolean)) (by decide) rfl ?_
  intro p e s m args below meth c s₁ B hml hv
  obtain ⟨rfl, hsz, hP, hK⟩ := hv
  subst hsz
  have X : cX D Y p s m ([.ref (ad 155), .int x1] : List Value).toArray meth c cX2_addSign 2 RX2 (some .boolean) := ⟨⟨B.exec, B.bytes, hml, findClass_of_methodNamed B.named, fun w h => atoms_spec (ws := uX2_addSign) B.pre w (List.mem_cons_of_mem _ h)⟩, B.returns, B.notSynchronized, hK⟩
  have hl := lv_entry ([.ref (ad 155), .int x1]) (n := 2) (Nat.le_of_ble_eq_true rfl)
  rw [lg_entry_eq]
  generalize (lg_sl ([.ref (ad 155), .int x1]) ++ List.replicate (2 - (lg_sl ([.ref (ad 155), .int x1])).length) Slot.unset).toArray = ls at hl ⊢
  have hl : lv_has ls 2 [(0, .ref (ad 155)), (1, .int x1)] := hl
  exact w2_addSign_0 X hI (cH_in 12 ⟨hP, va_S.rf⟩) (lv_sub hl [0, 1] rfl) hf
set_option maxRecDepth 100000 in
set_option maxHeartbeats 4000000 in
theorem km2_addSign {p : Program} {l : Launch} {e : Env} {R : Room} {s : State} {m : MethodId} {args : Array Value} {below : List Frame} {meth : Method} {c : Code} {cc : ByteArray} {nL : Nat} {own : String} {ret : Option FieldType} {D : va_G} {Y : cYt} {ad : Nat → Nat} {μ : Nat → Nat → Int32} {H : Heap} {locs : List Loc} {cells slots : Nat} {Q : State → Prop} {pc : Nat} {ls : Array Slot} {rest : List Value} (X : cX D Y p s m args meth c cc nL own ret) (hI : cInj ad) (hH : cH D Y ad μ s H locs) (hls : ls.size = nL) {index : Nat} (hG : GoodIn gw (wsV own index RX2 yX2_addSign uX2_addSign)) (hR : rm2_addSign.frames + 1 ≤ R.frames ∧ 8 + (2 + 11) + rm2_addSign.locals ≤ R.locals) {x1 : Int32} {t : Int32 × (Nat → Int32)} (hf : f2_addSign_0 x1 (μ 12) = some t) (hrest : (rest.map fun v => v.category).sum ≤ 8) (hdg : decode cc pc = .ok (.invokevirtual index, 3)) (hc : cells ≤ R.cells ∧ slots ≤ R.slots) (kk : ∀ (H1 : Heap) (locs1 : List Loc), cH D Y ad (s1 μ 12 t.2) s H1 locs1 → W p l e R s m args below meth c H1 locs1 cells slots Q (F0 m (pc + 3) ls (.int t.1 :: rest))) : W p l e R s m args below meth c H locs cells slots Q (F0 m pc ls (.int x1 :: .ref (ad 155) :: rest)) := by
  have hA : ∀ q, cA ad H.size q → cA ad s.heap.size q := fun q h => h.elim Or.inl (fun h => Or.inr (Nat.le_trans hH.2.1 h))
  refine va_calli (va_runV (As := [.int x1]) (rest := rest) X.1 (c2_addSign l hI H.size x1 hf) (cwV 1 X.1.2.2.2.2 hG rfl rfl rfl (by decide +kernel) hR) ⟨cBs_bl, va_recv X.2.2.2 hH.1 (ci := 2) (q0 := 155) rfl (cw_ate (by omega) (rfl)), fun U hU hW => ⟨rfl, by rw [hU], by rw [hU]; exact hH.1, va_K.moved hW.alike X.2.2.2⟩⟩ rfl rfl hls rfl (lv_room hrest) hdg hc) hH.2 (fun q _ h => hA q h) hA (fun r9 u t9 H1 locs1 ht hvm hw hB hz1 hk1 hS => ?_)
  subst hw
  exact kk H1 locs1 ⟨by rw [← ht]; exact hB.1, hS⟩
set_option maxRecDepth 100000 in
set_option maxHeartbeats 4000000 in
theorem k2_addSign {p : Program} {l : Launch} {e : Env} {R : Room} {s : State} {m : MethodId} {args : Array Value} {below : List Frame} {meth : Method} {c : Code} {cc : ByteArray} {nL : Nat} {own : String} {ret : Option FieldType} {D : va_G} {Y : cYt} {ad : Nat → Nat} {μ : Nat → Nat → Int32} {H : Heap} {locs : List Loc} {cells slots : Nat} {Q : State → Prop} {pc : Nat} {ls : Array Slot} {rest : List Value} (X : cX D Y p s m args meth c cc nL own ret) {v0 : Nat → Int32} (hI : cInj ad) (hH : cH D Y ad (s1 μ 12 v0) s H locs) (hls : ls.size = nL) {index : Nat} (hG : GoodIn gw (wsV own index RX2 yX2_addSign uX2_addSign)) (hR : rm2_addSign.frames + 1 ≤ R.frames ∧ 8 + (2 + 11) + rm2_addSign.locals ≤ R.locals) {x1 : Int32} {t : Int32 × (Nat → Int32)} (hf : f2_addSign_0 x1 v0 = some t) (hrest : (rest.map fun v => v.category).sum ≤ 8) (hdg : decode cc pc = .ok (.invokevirtual index, 3)) (hc : cells ≤ R.cells ∧ slots ≤ R.slots) (kk : ∀ (H1 : Heap) (locs1 : List Loc), cH D Y ad (s1 μ 12 t.2) s H1 locs1 → W p l e R s m args below meth c H1 locs1 cells slots Q (F0 m (pc + 3) ls (.int t.1 :: rest))) : W p l e R s m args below meth c H locs cells slots Q (F0 m pc ls (.int x1 :: .ref (ad 155) :: rest)) := by
  have hf2 : f2_addSign_0 x1 (s1 μ 12 v0 12) = some t := by rw [s1_k]; exact hf
  exact km2_addSign (μ := s1 μ 12 v0) X hI hH hls hG hR hf2 hrest hdg hc (fun H1 locs1 h => kk H1 locs1 (by rw [s1_s1] at h; exact h))
/-! OreRailway$OrderText.signAt(I)C -/
def rm2_signAt : Room := { frames := 0, cells := 0, slots := 0, locals := 0 }
def f2_signAt_28 (v0 : Nat → Int32) (y0 : Int32) : Option (Int32) := gc y0 (some y0)
set_option maxRecDepth 100000 in
set_option maxHeartbeats 4000000 in
theorem w2_signAt_28 {p : Program} {l : Launch} {e : Env} {s : State} {m : MethodId} {args : Array Value} {below : List Frame} {meth : Method} {c : Code} {D : va_G} {Y : cYt} {ad : Nat → Nat} {μ : Nat → Nat → Int32} {v0 : Nat → Int32} (X : cX D Y p s m args meth c cX2_signAt 2 RX2 (some .char)) (hM : μ 12 = v0) (hP : va_P D vwCl (cwW Y ad μ) s.heap) {y0 : Int32} {t : Int32}  {ls : Array Slot} (hl : lv_has ls 2 []) (hf : f2_signAt_28 v0 y0 = some t) : W p l e rm2_signAt s m args below meth c s.heap [] 0 0 (MQ below (QcRead t) args s 0 0 (fun _ => False)) (F0 m 28 ls [.int y0]) := by
  obtain ⟨⟨hx, hb, hml, hown, hts⟩, hr, hlk, hK⟩ := id X
  replace hf : (gc y0 (some y0)) = some t := hf
  obtain ⟨hz, hf⟩ := gc_o hf
  obtain rfl := so_i hf
  exact rd_z hx hb hr hlk (nz_c hz) dX2_signAt_28
def f2_signAt_27 (v0 : Nat → Int32) : Option (Int32) := f2_signAt_28 v0 0
set_option maxRecDepth 100000 in
set_option maxHeartbeats 4000000 in
theorem w2_signAt_27 {p : Program} {l : Launch} {e : Env} {s : State} {m : MethodId} {args : Array Value} {below : List Frame} {meth : Method} {c : Code} {D : va_G} {Y : cYt} {ad : Nat → Nat} {μ : Nat → Nat → Int32} {v0 : Nat → Int32} (X : cX D Y p s m args meth c cX2_signAt 2 RX2 (some .char)) (hM : μ 12 = v0) (hP : va_P D vwCl (cwW Y ad μ) s.heap) {t : Int32}  {ls : Array Slot} (hl : lv_has ls 2 []) (hf : f2_signAt_27 v0  = some t) : W p l e rm2_signAt s m args below meth c s.heap [] 0 0 (MQ below (QcRead t) args s 0 0 (fun _ => False)) (F0 m 27 ls []) := by
  obtain ⟨⟨hx, hb, hml, hown, hts⟩, hr, hlk, hK⟩ := id X
  replace hf : (f2_signAt_28 v0 0) = some t := hf
  refine lv_iconst (v := 0) hx hb dX2_signAt_27 (by decide) ?_
  exact w2_signAt_28 X hM hP  (lv_sub hl [] rfl) hf
def f2_signAt_0 (v0 : Nat → Int32) (x1 : Int32) : Option (Int32) := if x1 < 0 then (f2_signAt_27 v0) else (if (v0 60) ≤ x1 then (f2_signAt_27 v0) else (if 60 ≤ x1 then (f2_signAt_27 v0) else (gd x1 60 (f2_signAt_28 v0 (v0 (Int32.toNatClampNeg x1))))))
set_option maxRecDepth 100000 in
set_option maxHeartbeats 4000000 in
theorem w2_signAt_0 {p : Program} {l : Launch} {e : Env} {s : State} {m : MethodId} {args : Array Value} {below : List Frame} {meth : Method} {c : Code} {D : va_G} {Y : cYt} {ad : Nat → Nat} {μ : Nat → Nat → Int32} {v0 : Nat → Int32} (X : cX D Y p s m args meth c cX2_signAt 2 RX2 (some .char)) (hM : μ 12 = v0) (hP : va_P D vwCl (cwW Y ad μ) s.heap) {x1 : Int32} {t : Int32}  {ls : Array Slot} (hl : lv_has ls 2 [(0, .ref (ad 155)), (1, .int x1)]) (hf : f2_signAt_0 v0 x1 = some t) : W p l e rm2_signAt s m args below meth c s.heap [] 0 0 (MQ below (QcRead t) args s 0 0 (fun _ => False)) (F0 m 0 ls []) := by
  obtain ⟨⟨hx, hb, hml, hown, hts⟩, hr, hlk, hK⟩ := id X
  replace hf : (if x1 < 0 then (f2_signAt_27 v0) else (if (v0 60) ≤ x1 then (f2_signAt_27 v0) else (if 60 ≤ x1 then (f2_signAt_27 v0) else (gd x1 60 (f2_signAt_28 v0 (v0 (Int32.toNatClampNeg x1))))))) = some t := hf
  refine lv_iload_n hx hb dX2_signAt_0 rfl (lv_at hl 1 rfl) ?_
  refine lv_if_lt (tgt := 27) hx hb dX2_signAt_1 (by decide) (fun c1 => ?_) (fun c1 => ?_)
  · have hf := it_t c1 hf
    exact w2_signAt_27 X hM hP  (lv_sub hl [] rfl) hf
  · have hf := it_f c1 hf
    refine lv_iload_n hx hb dX2_signAt_4 rfl (lv_at hl 1 rfl) ?_
    refine lv_aload_n hx hb dX2_signAt_5 rfl (lv_at hl 0 rfl) ?_
    refine cr_gOr X hM hP (i := 1) (v := .int (v0 60)) (by decide) gfX2_15 rfl dX2_signAt_6 ?_
    refine lv_icmp_ge (tgt := 27) hx hb dX2_signAt_9 (by decide) (fun c2 => ?_) (fun c2 => ?_)
    · have hf := it_t c2 hf
      exact w2_signAt_27 X hM hP  (lv_sub hl [] rfl) hf
    · have hf := it_f c2 hf
      refine lv_iload_n hx hb dX2_signAt_12 rfl (lv_at hl 1 rfl) ?_
      refine lv_bipush (v := 60) hx hb dX2_signAt_13 (by decide) ?_
      refine lv_icmp_ge (tgt := 27) hx hb dX2_signAt_15 (by decide) (fun c3 => ?_) (fun c3 => ?_)
      · have hf := it_t c3 hf
        exact w2_signAt_27 X hM hP  (lv_sub hl [] rfl) hf
      · have hf := it_f c3 hf
        refine lv_aload_n hx hb dX2_signAt_18 rfl (lv_at hl 0 rfl) ?_
        refine cr_gOr X hM hP (i := 0) (v := .ref (ad 156)) (by decide) gfX2_9 rfl dX2_signAt_19 ?_
        refine lv_iload_n hx hb dX2_signAt_22 rfl (lv_at hl 1 rfl) ?_
        obtain ⟨hi4, hf⟩ := gd_o hf
        refine cr_text X hM hP hi4 dX2_signAt_23 ?_
        refine lv_goto (tgt := 28) hx hb dX2_signAt_24 (by decide) ?_
        exact w2_signAt_28 X hM hP  (lv_sub hl [] rfl) hf
set_option maxRecDepth 100000 in
set_option maxHeartbeats 4000000 in
theorem c2_signAt (l : Launch) {D : va_G} {Y : cYt} {ad : Nat → Nat} {μ : Nat → Nat → Int32} (x1 : Int32) {t : Int32} (hf : f2_signAt_0 (μ 12) x1 = some t) : Met l yX2_signAt uX2_signAt rm2_signAt (va_Pc [.ref (ad 155), .int x1] (cB D Y ad μ)) (QcRead t) 0 0 (fun _ => False) := by
  refine Met.ofW (cc := cX2_signAt) (maxL := 2) (ret := (some .char)) (by decide) rfl ?_
  intro p e s m args below meth c s₁ B hml hv
  obtain ⟨rfl, hP, hK⟩ := hv
  have X : cX D Y p s m ([.ref (ad 155), .int x1] : List Value).toArray meth c cX2_signAt 2 RX2 (some .char) := ⟨⟨B.exec, B.bytes, hml, findClass_of_methodNamed B.named, fun w h => atoms_spec (ws := uX2_signAt) B.pre w (List.mem_cons_of_mem _ h)⟩, B.returns, B.notSynchronized, hK⟩
  have hl := lv_entry ([.ref (ad 155), .int x1]) (n := 2) (Nat.le_of_ble_eq_true rfl)
  rw [lg_entry_eq]
  generalize (lg_sl ([.ref (ad 155), .int x1]) ++ List.replicate (2 - (lg_sl ([.ref (ad 155), .int x1])).length) Slot.unset).toArray = ls at hl ⊢
  have hl : lv_has ls 2 [(0, .ref (ad 155)), (1, .int x1)] := hl
  exact w2_signAt_0 X rfl hP (lv_sub hl [0, 1] rfl) hf
set_option maxRecDepth 100000 in
set_option maxHeartbeats 4000000 in
theorem k2_signAt {p : Program} {l : Launch} {e : Env} {R : Room} {s : State} {m : MethodId} {args : Array Value} {below : List Frame} {meth : Method} {c : Code} {cc : ByteArray} {nL : Nat} {own : String} {ret : Option FieldType} {D : va_G} {Y : cYt} {ad : Nat → Nat} {μ : Nat → Nat → Int32} {H : Heap} {locs : List Loc} {cells slots : Nat} {Q : State → Prop} {pc : Nat} {ls : Array Slot} {rest : List Value} (X : cX D Y p s m args meth c cc nL own ret) {v0 : Nat → Int32} (hM : μ 12 = v0) (hP : va_P D vwCl (cwW Y ad μ) H) (hls : ls.size = nL) {index : Nat} (hG : GoodIn gw (wsV own index RX2 yX2_signAt uX2_signAt)) (hR : rm2_signAt.frames + 1 ≤ R.frames ∧ 8 + (2 + 11) + rm2_signAt.locals ≤ R.locals) {x1 : Int32} {t : Int32} (hf : f2_signAt_0 v0 x1 = some t) (hrest : (rest.map fun v => v.category).sum ≤ 8) (hdg : decode cc pc = .ok (.invokevirtual index, 3)) (hc : cells ≤ R.cells ∧ slots ≤ R.slots) (kk : W p l e R s m args below meth c H locs cells slots Q (F0 m (pc + 3) ls (.int t :: rest))) : W p l e R s m args below meth c H locs cells slots Q (F0 m pc ls (.int x1 :: .ref (ad 155) :: rest)) := by
  subst hM
  exact W.callR (W.runV (As := [.int x1]) X.1 (c2_signAt l x1 hf) (cwV 1 X.1.2.2.2.2 hG rfl rfl rfl (by decide +kernel) hR) ⟨cB_bl, va_recv X.2.2.2 hP (ci := 2) (q0 := 155) rfl (cw_ate (by omega) (rfl)), fun U hU hW => ⟨rfl, by rw [hU]; exact hP, va_K.moved hW.alike X.2.2.2⟩⟩ rfl rfl hls rfl (lv_room hrest) hdg hc) kk
/-! OreRailway$OrderText.dueAfterLetter(C)I -/
def rm2_dueAfterLetter : Room := { frames := 0, cells := 0, slots := 0, locals := 0 }
def f2_dueAfterLetter_0 (x0 : Int32) : Option (Int32) := if x0 = 98 then (some 5) else (if x0 = 99 then (some ((-1))) else (if x0 = 100 then (some ((-1))) else (if x0 = 101 then (some ((-1))) else (if x0 = 102 then (some ((-1))) else (if x0 = 103 then (some ((-1))) else (if x0 = 104 then (some ((-1))) else (if x0 = 105 then (some ((-1))) else (if x0 = 106 then (some ((-1))) else (if x0 = 107 then (some ((-1))) else (if x0 = 108 then (some 2) else (if x0 = 109 then (some 8) else (if x0 = 110 then (some 1) else (if x0 = 111 then (some ((-1))) else (if x0 = 112 then (some ((-1))) else (if x0 = 113 then (some ((-1))) else (if x0 = 114 then (some 5) else (if x0 = 115 then (some ((-1))) else (if x0 = 116 then (some 9) else (some ((-1)))))))))))))))))))))
set_option maxRecDepth 100000 in
set_option maxHeartbeats 4000000 in
theorem w2_dueAfterLetter_0 {p : Program} {l : Launch} {e : Env} {s : State} {m : MethodId} {args : Array Value} {below : List Frame} {meth : Method} {c : Code} (X : sX p s m args meth c cX2_dueAfterLetter 1 RX2 (some .int)) {x0 : Int32} {t : Int32}  {ls : Array Slot} (hl : lv_has ls 1 [(0, .int x0)]) (hf : f2_dueAfterLetter_0 x0 = some t) : W p l e rm2_dueAfterLetter s m args below meth c s.heap [] 0 0 (MQ below (QcRead t) args s 0 0 (fun _ => False)) (F0 m 0 ls []) := by
  obtain ⟨⟨hx, hb, hml, hown, hts⟩, hr, hlk⟩ := id X
  replace hf : (if x0 = 98 then (some 5) else (if x0 = 99 then (some ((-1))) else (if x0 = 100 then (some ((-1))) else (if x0 = 101 then (some ((-1))) else (if x0 = 102 then (some ((-1))) else (if x0 = 103 then (some ((-1))) else (if x0 = 104 then (some ((-1))) else (if x0 = 105 then (some ((-1))) else (if x0 = 106 then (some ((-1))) else (if x0 = 107 then (some ((-1))) else (if x0 = 108 then (some 2) else (if x0 = 109 then (some 8) else (if x0 = 110 then (some 1) else (if x0 = 111 then (some ((-1))) else (if x0 = 112 then (some ((-1))) else (if x0 = 113 then (some ((-1))) else (if x0 = 114 then (some 5) else (if x0 = 115 then (some ((-1))) else (if x0 = 116 then (some 9) else (some ((-1)))))))))))))))))))))) = some t := hf
  refine lv_iload_n hx hb dX2_dueAfterLetter_0 rfl (lv_at hl 0 rfl) ?_
  by_cases c1 : x0 = 98
  · have hf := it_t c1 hf
    refine lv_tableIn (off := 95) (tgt := 96) hx hb dX2_dueAfterLetter_1 (by rw [c1]; decide) (by rw [c1]; decide) (by rw [c1]; rfl) (by decide) ?_
    refine lv_iconst (v := 5) hx hb dX2_dueAfterLetter_96 (by decide) ?_
    obtain rfl := so_i hf
    exact rd_i hx hb hr hlk dX2_dueAfterLetter_97
  · have hf := it_f c1 hf
    by_cases c2 : x0 = 99
    · have hf := it_t c2 hf
      refine lv_tableIn (off := 103) (tgt := 104) hx hb dX2_dueAfterLetter_1 (by rw [c2]; decide) (by rw [c2]; decide) (by rw [c2]; rfl) (by decide) ?_
      refine lv_iconst (v := (-1)) hx hb dX2_dueAfterLetter_104 (by decide) ?_
      obtain rfl := so_i hf
      exact rd_i hx hb hr hlk dX2_dueAfterLetter_105
    · have hf := it_f c2 hf
      by_cases c3 : x0 = 100
      · have hf := it_t c3 hf
        refine lv_tableIn (off := 103) (tgt := 104) hx hb dX2_dueAfterLetter_1 (by rw [c3]; decide) (by rw [c3]; decide) (by rw [c3]; rfl) (by decide) ?_
        refine lv_iconst (v := (-1)) hx hb dX2_dueAfterLetter_104 (by decide) ?_
        obtain rfl := so_i hf
        exact rd_i hx hb hr hlk dX2_dueAfterLetter_105
      · have hf := it_f c3 hf
        by_cases c4 : x0 = 101
        · have hf := it_t c4 hf
          refine lv_tableIn (off := 103) (tgt := 104) hx hb dX2_dueAfterLetter_1 (by rw [c4]; decide) (by rw [c4]; decide) (by rw [c4]; rfl) (by decide) ?_
          refine lv_iconst (v := (-1)) hx hb dX2_dueAfterLetter_104 (by decide) ?_
          obtain rfl := so_i hf
          exact rd_i hx hb hr hlk dX2_dueAfterLetter_105
        · have hf := it_f c4 hf
          by_cases c5 : x0 = 102
          · have hf := it_t c5 hf
            refine lv_tableIn (off := 103) (tgt := 104) hx hb dX2_dueAfterLetter_1 (by rw [c5]; decide) (by rw [c5]; decide) (by rw [c5]; rfl) (by decide) ?_
            refine lv_iconst (v := (-1)) hx hb dX2_dueAfterLetter_104 (by decide) ?_
            obtain rfl := so_i hf
            exact rd_i hx hb hr hlk dX2_dueAfterLetter_105
          · have hf := it_f c5 hf
            by_cases c6 : x0 = 103
            · have hf := it_t c6 hf
              refine lv_tableIn (off := 103) (tgt := 104) hx hb dX2_dueAfterLetter_1 (by rw [c6]; decide) (by rw [c6]; decide) (by rw [c6]; rfl) (by decide) ?_
              refine lv_iconst (v := (-1)) hx hb dX2_dueAfterLetter_104 (by decide) ?_
              obtain rfl := so_i hf
              exact rd_i hx hb hr hlk dX2_dueAfterLetter_105
            · have hf := it_f c6 hf
              by_cases c7 : x0 = 104
              · have hf := it_t c7 hf
                refine lv_tableIn (off := 103) (tgt := 104) hx hb dX2_dueAfterLetter_1 (by rw [c7]; decide) (by rw [c7]; decide) (by rw [c7]; rfl) (by decide) ?_
                refine lv_iconst (v := (-1)) hx hb dX2_dueAfterLetter_104 (by decide) ?_
                obtain rfl := so_i hf
                exact rd_i hx hb hr hlk dX2_dueAfterLetter_105
              · have hf := it_f c7 hf
                by_cases c8 : x0 = 105
                · have hf := it_t c8 hf
                  refine lv_tableIn (off := 103) (tgt := 104) hx hb dX2_dueAfterLetter_1 (by rw [c8]; decide) (by rw [c8]; decide) (by rw [c8]; rfl) (by decide) ?_
                  refine lv_iconst (v := (-1)) hx hb dX2_dueAfterLetter_104 (by decide) ?_
                  obtain rfl := so_i hf
                  exact rd_i hx hb hr hlk dX2_dueAfterLetter_105
                · have hf := it_f c8 hf
                  by_cases c9 : x0 = 106
                  · have hf := it_t c9 hf
                    refine lv_tableIn (off := 103) (tgt := 104) hx hb dX2_dueAfterLetter_1 (by rw [c9]; decide) (by rw [c9]; decide) (by rw [c9]; rfl) (by decide) ?_
                    refine lv_iconst (v := (-1)) hx hb dX2_dueAfterLetter_104 (by decide) ?_
                    obtain rfl := so_i hf
                    exact rd_i hx hb hr hlk dX2_dueAfterLetter_105
                  · have hf := it_f c9 hf
                    by_cases c10 : x0 = 107
                    · have hf := it_t c10 hf
                      refine lv_tableIn (off := 103) (tgt := 104) hx hb dX2_dueAfterLetter_1 (by rw [c10]; decide) (by rw [c10]; decide) (by rw [c10]; rfl) (by decide) ?_
                      refine lv_iconst (v := (-1)) hx hb dX2_dueAfterLetter_104 (by decide) ?_
                      obtain rfl := so_i hf
                      exact rd_i hx hb hr hlk dX2_dueAfterLetter_105
                    · have hf := it_f c10 hf
                      by_cases c11 : x0 = 108
                      · have hf := it_t c11 hf
                        refine lv_tableIn (off := 93) (tgt := 94) hx hb dX2_dueAfterLetter_1 (by rw [c11]; decide) (by rw [c11]; decide) (by rw [c11]; rfl) (by decide) ?_
                        refine lv_iconst (v := 2) hx hb dX2_dueAfterLetter_94 (by decide) ?_
                        obtain rfl := so_i hf
                        exact rd_i hx hb hr hlk dX2_dueAfterLetter_95
                      · have hf := it_f c11 hf
                        by_cases c12 : x0 = 109
                        · have hf := it_t c12 hf
                          refine lv_tableIn (off := 97) (tgt := 98) hx hb dX2_dueAfterLetter_1 (by rw [c12]; decide) (by rw [c12]; decide) (by rw [c12]; rfl) (by decide) ?_
                          refine lv_bipush (v := 8) hx hb dX2_dueAfterLetter_98 (by decide) ?_
                          obtain rfl := so_i hf
                          exact rd_i hx hb hr hlk dX2_dueAfterLetter_100
                        · have hf := it_f c12 hf
                          by_cases c13 : x0 = 110
                          · have hf := it_t c13 hf
                            refine lv_tableIn (off := 91) (tgt := 92) hx hb dX2_dueAfterLetter_1 (by rw [c13]; decide) (by rw [c13]; decide) (by rw [c13]; rfl) (by decide) ?_
                            refine lv_iconst (v := 1) hx hb dX2_dueAfterLetter_92 (by decide) ?_
                            obtain rfl := so_i hf
                            exact rd_i hx hb hr hlk dX2_dueAfterLetter_93
                          · have hf := it_f c13 hf
                            by_cases c14 : x0 = 111
                            · have hf := it_t c14 hf
                              refine lv_tableIn (off := 103) (tgt := 104) hx hb dX2_dueAfterLetter_1 (by rw [c14]; decide) (by rw [c14]; decide) (by rw [c14]; rfl) (by decide) ?_
                              refine lv_iconst (v := (-1)) hx hb dX2_dueAfterLetter_104 (by decide) ?_
                              obtain rfl := so_i hf
                              exact rd_i hx hb hr hlk dX2_dueAfterLetter_105
                            · have hf := it_f c14 hf
                              by_cases c15 : x0 = 112
                              · have hf := it_t c15 hf
                                refine lv_tableIn (off := 103) (tgt := 104) hx hb dX2_dueAfterLetter_1 (by rw [c15]; decide) (by rw [c15]; decide) (by rw [c15]; rfl) (by decide) ?_
                                refine lv_iconst (v := (-1)) hx hb dX2_dueAfterLetter_104 (by decide) ?_
                                obtain rfl := so_i hf
                                exact rd_i hx hb hr hlk dX2_dueAfterLetter_105
                              · have hf := it_f c15 hf
                                by_cases c16 : x0 = 113
                                · have hf := it_t c16 hf
                                  refine lv_tableIn (off := 103) (tgt := 104) hx hb dX2_dueAfterLetter_1 (by rw [c16]; decide) (by rw [c16]; decide) (by rw [c16]; rfl) (by decide) ?_
                                  refine lv_iconst (v := (-1)) hx hb dX2_dueAfterLetter_104 (by decide) ?_
                                  obtain rfl := so_i hf
                                  exact rd_i hx hb hr hlk dX2_dueAfterLetter_105
                                · have hf := it_f c16 hf
                                  by_cases c17 : x0 = 114
                                  · have hf := it_t c17 hf
                                    refine lv_tableIn (off := 95) (tgt := 96) hx hb dX2_dueAfterLetter_1 (by rw [c17]; decide) (by rw [c17]; decide) (by rw [c17]; rfl) (by decide) ?_
                                    refine lv_iconst (v := 5) hx hb dX2_dueAfterLetter_96 (by decide) ?_
                                    obtain rfl := so_i hf
                                    exact rd_i hx hb hr hlk dX2_dueAfterLetter_97
                                  · have hf := it_f c17 hf
                                    by_cases c18 : x0 = 115
                                    · have hf := it_t c18 hf
                                      refine lv_tableIn (off := 103) (tgt := 104) hx hb dX2_dueAfterLetter_1 (by rw [c18]; decide) (by rw [c18]; decide) (by rw [c18]; rfl) (by decide) ?_
                                      refine lv_iconst (v := (-1)) hx hb dX2_dueAfterLetter_104 (by decide) ?_
                                      obtain rfl := so_i hf
                                      exact rd_i hx hb hr hlk dX2_dueAfterLetter_105
                                    · have hf := it_f c18 hf
                                      by_cases c19 : x0 = 116
                                      · have hf := it_t c19 hf
                                        refine lv_tableIn (off := 100) (tgt := 101) hx hb dX2_dueAfterLetter_1 (by rw [c19]; decide) (by rw [c19]; decide) (by rw [c19]; rfl) (by decide) ?_
                                        refine lv_bipush (v := 9) hx hb dX2_dueAfterLetter_101 (by decide) ?_
                                        obtain rfl := so_i hf
                                        exact rd_i hx hb hr hlk dX2_dueAfterLetter_103
                                      · have hf := it_f c19 hf
                                        have nc1 : ¬ Int32.toInt x0 = 98 := ne_ti c1 (by decide)
                                        have nc2 : ¬ Int32.toInt x0 = 99 := ne_ti c2 (by decide)
                                        have nc3 : ¬ Int32.toInt x0 = 100 := ne_ti c3 (by decide)
                                        have nc4 : ¬ Int32.toInt x0 = 101 := ne_ti c4 (by decide)
                                        have nc5 : ¬ Int32.toInt x0 = 102 := ne_ti c5 (by decide)
                                        have nc6 : ¬ Int32.toInt x0 = 103 := ne_ti c6 (by decide)
                                        have nc7 : ¬ Int32.toInt x0 = 104 := ne_ti c7 (by decide)
                                        have nc8 : ¬ Int32.toInt x0 = 105 := ne_ti c8 (by decide)
                                        have nc9 : ¬ Int32.toInt x0 = 106 := ne_ti c9 (by decide)
                                        have nc10 : ¬ Int32.toInt x0 = 107 := ne_ti c10 (by decide)
                                        have nc11 : ¬ Int32.toInt x0 = 108 := ne_ti c11 (by decide)
                                        have nc12 : ¬ Int32.toInt x0 = 109 := ne_ti c12 (by decide)
                                        have nc13 : ¬ Int32.toInt x0 = 110 := ne_ti c13 (by decide)
                                        have nc14 : ¬ Int32.toInt x0 = 111 := ne_ti c14 (by decide)
                                        have nc15 : ¬ Int32.toInt x0 = 112 := ne_ti c15 (by decide)
                                        have nc16 : ¬ Int32.toInt x0 = 113 := ne_ti c16 (by decide)
                                        have nc17 : ¬ Int32.toInt x0 = 114 := ne_ti c17 (by decide)
                                        have nc18 : ¬ Int32.toInt x0 = 115 := ne_ti c18 (by decide)
                                        have nc19 : ¬ Int32.toInt x0 = 116 := ne_ti c19 (by decide)
                                        refine lv_tableOut (tgt := 104) hx hb dX2_dueAfterLetter_1 (by omega) (by decide) ?_
                                        refine lv_iconst (v := (-1)) hx hb dX2_dueAfterLetter_104 (by decide) ?_
                                        obtain rfl := so_i hf
                                        exact rd_i hx hb hr hlk dX2_dueAfterLetter_105
set_option maxRecDepth 100000 in
set_option maxHeartbeats 4000000 in
theorem c2_dueAfterLetter (l : Launch) (x0 : Int32) {t : Int32} (hf : f2_dueAfterLetter_0 x0 = some t) : Met l yX2_dueAfterLetter uX2_dueAfterLetter rm2_dueAfterLetter (fun v _ => v = ([.int x0] : List Value).toArray) (QcRead t) 0 0 (fun _ => False) := by
  refine Met.ofW (cc := cX2_dueAfterLetter) (maxL := 1) (ret := (some .int)) (by decide) rfl ?_
  intro p e s m args below meth c s₁ B hml hv
  obtain rfl := hv
  have X : sX p s m ([.int x0] : List Value).toArray meth c cX2_dueAfterLetter 1 RX2 (some .int) := ⟨⟨B.exec, B.bytes, hml, findClass_of_methodNamed B.named, fun w h => atoms_spec (ws := uX2_dueAfterLetter) B.pre w (List.mem_cons_of_mem _ h)⟩, B.returns, B.notSynchronized⟩
  have hl := lv_entry ([.int x0]) (n := 1) (Nat.le_of_ble_eq_true rfl)
  rw [lg_entry_eq]
  generalize (lg_sl ([.int x0]) ++ List.replicate (1 - (lg_sl ([.int x0])).length) Slot.unset).toArray = ls at hl ⊢
  have hl : lv_has ls 1 [(0, .int x0)] := hl
  exact w2_dueAfterLetter_0 X (lv_sub hl [0] rfl) hf
set_option maxRecDepth 100000 in
set_option maxHeartbeats 4000000 in
theorem k2_dueAfterLetter {p : Program} {l : Launch} {e : Env} {R : Room} {s : State} {m : MethodId} {args : Array Value} {below : List Frame} {meth : Method} {c : Code} {cc : ByteArray} {nL : Nat} {own : String} {H : Heap} {locs : List Loc} {cells slots : Nat} {Q : State → Prop} {pc : Nat} {ls : Array Slot} {rest : List Value} (S : CallFix p m c cc nL s args gw own) (hls : ls.size = nL) {index : Nat} (hG : GoodIn gw (va_wsS own index yX2_dueAfterLetter uX2_dueAfterLetter)) (hR : rm2_dueAfterLetter.frames + 1 ≤ R.frames ∧ 8 + (1 + 11) + rm2_dueAfterLetter.locals ≤ R.locals) {x0 : Int32} {t : Int32} (hf : f2_dueAfterLetter_0 x0 = some t) (hrest : (rest.map fun v => v.category).sum ≤ 8) (hdg : decode cc pc = .ok (.invokestatic index, 3)) (hc : cells ≤ R.cells ∧ slots ≤ R.slots) (kk : W p l e R s m args below meth c H locs cells slots Q (F0 m (pc + 3) ls (.int t :: rest))) : W p l e R s m args below meth c H locs cells slots Q (F0 m pc ls (.int x0 :: rest)) :=
  W.callR (W.runS S (c2_dueAfterLetter l x0 hf) (va_cwS 1 S.2.2.2.2 hG rfl rfl rfl (by decide +kernel) hR) preEq rfl rfl hls rfl (lv_room hrest) hdg hc) kk
/-! OreRailway$OrderText.isDigit(CCC)Z -/
def rm2_isDigit : Room := { frames := 0, cells := 0, slots := 0, locals := 0 }
def f2_isDigit_15 (y0 : Int32) : Option (Int32) := gz y0 (some y0)
set_option maxRecDepth 100000 in
set_option maxHeartbeats 4000000 in
theorem w2_isDigit_15 {p : Program} {l : Launch} {e : Env} {s : State} {m : MethodId} {args : Array Value} {below : List Frame} {meth : Method} {c : Code} (X : sX p s m args meth c cX2_isDigit 3 RX2 (some .boolean)) {y0 : Int32} {t : Int32}  {ls : Array Slot} (hl : lv_has ls 3 []) (hf : f2_isDigit_15 y0 = some t) : W p l e rm2_isDigit s m args below meth c s.heap [] 0 0 (MQ below (QcRead t) args s 0 0 (fun _ => False)) (F0 m 15 ls [.int y0]) := by
  obtain ⟨⟨hx, hb, hml, hown, hts⟩, hr, hlk⟩ := id X
  replace hf : (gz y0 (some y0)) = some t := hf
  obtain ⟨hz, hf⟩ := gz_o hf
  obtain rfl := so_i hf
  exact rd_z hx hb hr hlk (nz_z hz) dX2_isDigit_15
def f2_isDigit_14 : Option (Int32) := f2_isDigit_15 0
set_option maxRecDepth 100000 in
set_option maxHeartbeats 4000000 in
theorem w2_isDigit_14 {p : Program} {l : Launch} {e : Env} {s : State} {m : MethodId} {args : Array Value} {below : List Frame} {meth : Method} {c : Code} (X : sX p s m args meth c cX2_isDigit 3 RX2 (some .boolean)) {t : Int32}  {ls : Array Slot} (hl : lv_has ls 3 []) (hf : f2_isDigit_14  = some t) : W p l e rm2_isDigit s m args below meth c s.heap [] 0 0 (MQ below (QcRead t) args s 0 0 (fun _ => False)) (F0 m 14 ls []) := by
  obtain ⟨⟨hx, hb, hml, hown, hts⟩, hr, hlk⟩ := id X
  replace hf : (f2_isDigit_15 0) = some t := hf
  refine lv_iconst (v := 0) hx hb dX2_isDigit_14 (by decide) ?_
  exact w2_isDigit_15 X  (lv_sub hl [] rfl) hf
def f2_isDigit_0 (x0 : Int32) (x1 : Int32) (x2 : Int32) : Option (Int32) := if x0 < x1 then (f2_isDigit_14 ) else (if x2 < x0 then (f2_isDigit_14 ) else (f2_isDigit_15 1))
set_option maxRecDepth 100000 in
set_option maxHeartbeats 4000000 in
theorem w2_isDigit_0 {p : Program} {l : Launch} {e : Env} {s : State} {m : MethodId} {args : Array Value} {below : List Frame} {meth : Method} {c : Code} (X : sX p s m args meth c cX2_isDigit 3 RX2 (some .boolean)) {x0 : Int32} {x1 : Int32} {x2 : Int32} {t : Int32}  {ls : Array Slot} (hl : lv_has ls 3 [(0, .int x0), (1, .int x1), (2, .int x2)]) (hf : f2_isDigit_0 x0 x1 x2 = some t) : W p l e rm2_isDigit s m args below meth c s.heap [] 0 0 (MQ below (QcRead t) args s 0 0 (fun _ => False)) (F0 m 0 ls []) := by
  obtain ⟨⟨hx, hb, hml, hown, hts⟩, hr, hlk⟩ := id X
  replace hf : (if x0 < x1 then (f2_isDigit_14 ) else (if x2 < x0 then (f2_isDigit_14 ) else (f2_isDigit_15 1))) = some t := hf
  refine lv_iload_n hx hb dX2_isDigit_0 rfl (lv_at hl 0 rfl) ?_
  refine lv_iload_n hx hb dX2_isDigit_1 rfl (lv_at hl 1 rfl) ?_
  refine lv_icmp_lt (tgt := 14) hx hb dX2_isDigit_2 (by decide) (fun c1 => ?_) (fun c1 => ?_)
  · have hf := it_t c1 hf
    exact w2_isDigit_14 X  (lv_sub hl [] rfl) hf
  · have hf := it_f c1 hf
    refine lv_iload_n hx hb dX2_isDigit_5 rfl (lv_at hl 0 rfl) ?_
    refine lv_iload_n hx hb dX2_isDigit_6 rfl (lv_at hl 2 rfl) ?_
    refine lv_icmp_gt (tgt := 14) hx hb dX2_isDigit_7 (by decide) (fun c2 => ?_) (fun c2 => ?_)
    · have hf := it_t c2 hf
      exact w2_isDigit_14 X  (lv_sub hl [] rfl) hf
    · have hf := it_f c2 hf
      refine lv_iconst (v := 1) hx hb dX2_isDigit_10 (by decide) ?_
      refine lv_goto (tgt := 15) hx hb dX2_isDigit_11 (by decide) ?_
      exact w2_isDigit_15 X  (lv_sub hl [] rfl) hf
set_option maxRecDepth 100000 in
set_option maxHeartbeats 4000000 in
theorem c2_isDigit (l : Launch) (x0 : Int32) (x1 : Int32) (x2 : Int32) {t : Int32} (hf : f2_isDigit_0 x0 x1 x2 = some t) : Met l yX2_isDigit uX2_isDigit rm2_isDigit (fun v _ => v = ([.int x0, .int x1, .int x2] : List Value).toArray) (QcRead t) 0 0 (fun _ => False) := by
  refine Met.ofW (cc := cX2_isDigit) (maxL := 3) (ret := (some .boolean)) (by decide) rfl ?_
  intro p e s m args below meth c s₁ B hml hv
  obtain rfl := hv
  have X : sX p s m ([.int x0, .int x1, .int x2] : List Value).toArray meth c cX2_isDigit 3 RX2 (some .boolean) := ⟨⟨B.exec, B.bytes, hml, findClass_of_methodNamed B.named, fun w h => atoms_spec (ws := uX2_isDigit) B.pre w (List.mem_cons_of_mem _ h)⟩, B.returns, B.notSynchronized⟩
  have hl := lv_entry ([.int x0, .int x1, .int x2]) (n := 3) (Nat.le_of_ble_eq_true rfl)
  rw [lg_entry_eq]
  generalize (lg_sl ([.int x0, .int x1, .int x2]) ++ List.replicate (3 - (lg_sl ([.int x0, .int x1, .int x2])).length) Slot.unset).toArray = ls at hl ⊢
  have hl : lv_has ls 3 [(0, .int x0), (1, .int x1), (2, .int x2)] := hl
  exact w2_isDigit_0 X (lv_sub hl [0, 1, 2] rfl) hf
set_option maxRecDepth 100000 in
set_option maxHeartbeats 4000000 in
theorem k2_isDigit {p : Program} {l : Launch} {e : Env} {R : Room} {s : State} {m : MethodId} {args : Array Value} {below : List Frame} {meth : Method} {c : Code} {cc : ByteArray} {nL : Nat} {own : String} {H : Heap} {locs : List Loc} {cells slots : Nat} {Q : State → Prop} {pc : Nat} {ls : Array Slot} {rest : List Value} (S : CallFix p m c cc nL s args gw own) (hls : ls.size = nL) {index : Nat} (hG : GoodIn gw (va_wsS own index yX2_isDigit uX2_isDigit)) (hR : rm2_isDigit.frames + 1 ≤ R.frames ∧ 8 + (3 + 11) + rm2_isDigit.locals ≤ R.locals) {x0 : Int32} {x1 : Int32} {x2 : Int32} {t : Int32} (hf : f2_isDigit_0 x0 x1 x2 = some t) (hrest : (rest.map fun v => v.category).sum ≤ 8) (hdg : decode cc pc = .ok (.invokestatic index, 3)) (hc : cells ≤ R.cells ∧ slots ≤ R.slots) (kk : W p l e R s m args below meth c H locs cells slots Q (F0 m (pc + 3) ls (.int t :: rest))) : W p l e R s m args below meth c H locs cells slots Q (F0 m pc ls (.int x2 :: .int x1 :: .int x0 :: rest)) :=
  W.callR (W.runS S (c2_isDigit l x0 x1 x2 hf) (va_cwS 3 S.2.2.2.2 hG rfl rfl rfl (by decide +kernel) hR) preEq rfl rfl hls rfl (lv_room hrest) hdg hc) kk
/-! OreRailway$OrderText.dueAfterFirstDigit(CC)I -/
def rm2_dueAfterFirstDigit : Room := { frames := 1, cells := 0, slots := 0, locals := 22 }
def f2_dueAfterFirstDigit_32 (y0 : Int32) : Option (Int32) := some y0
set_option maxRecDepth 100000 in
set_option maxHeartbeats 4000000 in
theorem w2_dueAfterFirstDigit_32 {p : Program} {l : Launch} {e : Env} {s : State} {m : MethodId} {args : Array Value} {below : List Frame} {meth : Method} {c : Code} (X : sX p s m args meth c cX2_dueAfterFirstDigit 2 RX2 (some .int)) {y0 : Int32} {t : Int32}  {ls : Array Slot} (hl : lv_has ls 2 []) (hf : f2_dueAfterFirstDigit_32 y0 = some t) : W p l e rm2_dueAfterFirstDigit s m args below meth c s.heap [] 0 0 (MQ below (QcRead t) args s 0 0 (fun _ => False)) (F0 m 32 ls [.int y0]) := by
  obtain ⟨⟨hx, hb, hml, hown, hts⟩, hr, hlk⟩ := id X
  replace hf : (some y0) = some t := hf
  obtain rfl := so_i hf
  exact rd_i hx hb hr hlk dX2_dueAfterFirstDigit_32
def f2_dueAfterFirstDigit_0 (x0 : Int32) (x1 : Int32) : Option (Int32) := Option.bind (f2_isDigit_0 x0 49 57) (fun t1 => if t1 = 0 then (some ((-1))) else (if x0 = x1 then (some 11) else (if x1 ≤ x0 then (f2_dueAfterFirstDigit_32 1) else (f2_dueAfterFirstDigit_32 10))))
set_option maxRecDepth 100000 in
set_option maxHeartbeats 4000000 in
theorem w2_dueAfterFirstDigit_0 {p : Program} {l : Launch} {e : Env} {s : State} {m : MethodId} {args : Array Value} {below : List Frame} {meth : Method} {c : Code} (X : sX p s m args meth c cX2_dueAfterFirstDigit 2 RX2 (some .int)) {x0 : Int32} {x1 : Int32} {t : Int32}  {ls : Array Slot} (hl : lv_has ls 2 [(0, .int x0), (1, .int x1)]) (hf : f2_dueAfterFirstDigit_0 x0 x1 = some t) : W p l e rm2_dueAfterFirstDigit s m args below meth c s.heap [] 0 0 (MQ below (QcRead t) args s 0 0 (fun _ => False)) (F0 m 0 ls []) := by
  obtain ⟨⟨hx, hb, hml, hown, hts⟩, hr, hlk⟩ := id X
  replace hf : (Option.bind (f2_isDigit_0 x0 49 57) (fun t1 => if t1 = 0 then (some ((-1))) else (if x0 = x1 then (some 11) else (if x1 ≤ x0 then (f2_dueAfterFirstDigit_32 1) else (f2_dueAfterFirstDigit_32 10))))) = some t := hf
  refine lv_iload_n hx hb dX2_dueAfterFirstDigit_0 rfl (lv_at hl 0 rfl) ?_
  refine lv_bipush (v := 49) hx hb dX2_dueAfterFirstDigit_1 (by decide) ?_
  refine lv_bipush (v := 57) hx hb dX2_dueAfterFirstDigit_3 (by decide) ?_
  obtain ⟨t1, ht1, hf⟩ := bd_o hf
  refine k2_isDigit X.1 hl.1 qX2_31 ⟨Nat.le_of_ble_eq_true rfl, Nat.le_of_ble_eq_true rfl⟩ ht1 (Nat.le_of_ble_eq_true rfl) dX2_dueAfterFirstDigit_5 ⟨Nat.zero_le _, Nat.zero_le _⟩ ?_
  refine lv_if_ne (tgt := 13) hx hb dX2_dueAfterFirstDigit_8 (by decide) (fun c2 => ?_) (fun c2 => ?_)
  · have hf := it_f c2 hf
    refine lv_iload_n hx hb dX2_dueAfterFirstDigit_13 rfl (lv_at hl 0 rfl) ?_
    refine lv_iload_n hx hb dX2_dueAfterFirstDigit_14 rfl (lv_at hl 1 rfl) ?_
    refine lv_icmp_ne (tgt := 21) hx hb dX2_dueAfterFirstDigit_15 (by decide) (fun c3 => ?_) (fun c3 => ?_)
    · have hf := it_f c3 hf
      refine lv_iload_n hx hb dX2_dueAfterFirstDigit_21 rfl (lv_at hl 0 rfl) ?_
      refine lv_iload_n hx hb dX2_dueAfterFirstDigit_22 rfl (lv_at hl 1 rfl) ?_
      refine lv_icmp_ge (tgt := 31) hx hb dX2_dueAfterFirstDigit_23 (by decide) (fun c4 => ?_) (fun c4 => ?_)
      · have hf := it_t c4 hf
        refine lv_iconst (v := 1) hx hb dX2_dueAfterFirstDigit_31 (by decide) ?_
        exact w2_dueAfterFirstDigit_32 X  (lv_sub hl [] rfl) hf
      · have hf := it_f c4 hf
        refine lv_bipush (v := 10) hx hb dX2_dueAfterFirstDigit_26 (by decide) ?_
        refine lv_goto (tgt := 32) hx hb dX2_dueAfterFirstDigit_28 (by decide) ?_
        exact w2_dueAfterFirstDigit_32 X  (lv_sub hl [] rfl) hf
    · have hf := it_t c3 hf
      refine lv_bipush (v := 11) hx hb dX2_dueAfterFirstDigit_18 (by decide) ?_
      obtain rfl := so_i hf
      exact rd_i hx hb hr hlk dX2_dueAfterFirstDigit_20
  · have hf := it_t c2 hf
    refine lv_iconst (v := (-1)) hx hb dX2_dueAfterFirstDigit_11 (by decide) ?_
    obtain rfl := so_i hf
    exact rd_i hx hb hr hlk dX2_dueAfterFirstDigit_12
set_option maxRecDepth 100000 in
set_option maxHeartbeats 4000000 in
theorem c2_dueAfterFirstDigit (l : Launch) (x0 : Int32) (x1 : Int32) {t : Int32} (hf : f2_dueAfterFirstDigit_0 x0 x1 = some t) : Met l yX2_dueAfterFirstDigit uX2_dueAfterFirstDigit rm2_dueAfterFirstDigit (fun v _ => v = ([.int x0, .int x1] : List Value).toArray) (QcRead t) 0 0 (fun _ => False) := by
  refine Met.ofW (cc := cX2_dueAfterFirstDigit) (maxL := 2) (ret := (some .int)) (by decide) rfl ?_
  intro p e s m args below meth c s₁ B hml hv
  obtain rfl := hv
  have X : sX p s m ([.int x0, .int x1] : List Value).toArray meth c cX2_dueAfterFirstDigit 2 RX2 (some .int) := ⟨⟨B.exec, B.bytes, hml, findClass_of_methodNamed B.named, fun w h => atoms_spec (ws := uX2_dueAfterFirstDigit) B.pre w (List.mem_cons_of_mem _ h)⟩, B.returns, B.notSynchronized⟩
  have hl := lv_entry ([.int x0, .int x1]) (n := 2) (Nat.le_of_ble_eq_true rfl)
  rw [lg_entry_eq]
  generalize (lg_sl ([.int x0, .int x1]) ++ List.replicate (2 - (lg_sl ([.int x0, .int x1])).length) Slot.unset).toArray = ls at hl ⊢
  have hl : lv_has ls 2 [(0, .int x0), (1, .int x1)] := hl
  exact w2_dueAfterFirstDigit_0 X (lv_sub hl [0, 1] rfl) hf
set_option maxRecDepth 100000 in
set_option maxHeartbeats 4000000 in
theorem k2_dueAfterFirstDigit {p : Program} {l : Launch} {e : Env} {R : Room} {s : State} {m : MethodId} {args : Array Value} {below : List Frame} {meth : Method} {c : Code} {cc : ByteArray} {nL : Nat} {own : String} {H : Heap} {locs : List Loc} {cells slots : Nat} {Q : State → Prop} {pc : Nat} {ls : Array Slot} {rest : List Value} (S : CallFix p m c cc nL s args gw own) (hls : ls.size = nL) {index : Nat} (hG : GoodIn gw (va_wsS own index yX2_dueAfterFirstDigit uX2_dueAfterFirstDigit)) (hR : rm2_dueAfterFirstDigit.frames + 1 ≤ R.frames ∧ 8 + (2 + 11) + rm2_dueAfterFirstDigit.locals ≤ R.locals) {x0 : Int32} {x1 : Int32} {t : Int32} (hf : f2_dueAfterFirstDigit_0 x0 x1 = some t) (hrest : (rest.map fun v => v.category).sum ≤ 8) (hdg : decode cc pc = .ok (.invokestatic index, 3)) (hc : cells ≤ R.cells ∧ slots ≤ R.slots) (kk : W p l e R s m args below meth c H locs cells slots Q (F0 m (pc + 3) ls (.int t :: rest))) : W p l e R s m args below meth c H locs cells slots Q (F0 m pc ls (.int x1 :: .int x0 :: rest)) :=
  W.callR (W.runS S (c2_dueAfterFirstDigit l x0 x1 hf) (va_cwS 2 S.2.2.2.2 hG rfl rfl rfl (by decide +kernel) hR) preEq rfl rfl hls rfl (lv_room hrest) hdg hc) kk
/-! OreRailway$OrderText.dueAfterEnd(IC)I -/
def rm2_dueAfterEnd : Room := { frames := 1, cells := 0, slots := 0, locals := 22 }
def f2_dueAfterEnd_52 (y0 : Int32) : Option (Int32) := some y0
set_option maxRecDepth 100000 in
set_option maxHeartbeats 4000000 in
theorem w2_dueAfterEnd_52 {p : Program} {l : Launch} {e : Env} {s : State} {m : MethodId} {args : Array Value} {below : List Frame} {meth : Method} {c : Code} (X : sX p s m args meth c cX2_dueAfterEnd 3 RX2 (some .int)) {y0 : Int32} {t : Int32}  {ls : Array Slot} (hl : lv_has ls 3 []) (hf : f2_dueAfterEnd_52 y0 = some t) : W p l e rm2_dueAfterEnd s m args below meth c s.heap [] 0 0 (MQ below (QcRead t) args s 0 0 (fun _ => False)) (F0 m 52 ls [.int y0]) := by
  obtain ⟨⟨hx, hb, hml, hown, hts⟩, hr, hlk⟩ := id X
  replace hf : (some y0) = some t := hf
  obtain rfl := so_i hf
  exact rd_i hx hb hr hlk dX2_dueAfterEnd_52
def f2_dueAfterEnd_42 (y0 : Int32) : Option (Int32) := if y0 = 0 then (f2_dueAfterEnd_52 ((-1))) else (f2_dueAfterEnd_52 1)
set_option maxRecDepth 100000 in
set_option maxHeartbeats 4000000 in
theorem w2_dueAfterEnd_42 {p : Program} {l : Launch} {e : Env} {s : State} {m : MethodId} {args : Array Value} {below : List Frame} {meth : Method} {c : Code} (X : sX p s m args meth c cX2_dueAfterEnd 3 RX2 (some .int)) {y0 : Int32} {t : Int32}  {ls : Array Slot} (hl : lv_has ls 3 []) (hf : f2_dueAfterEnd_42 y0 = some t) : W p l e rm2_dueAfterEnd s m args below meth c s.heap [] 0 0 (MQ below (QcRead t) args s 0 0 (fun _ => False)) (F0 m 42 ls [.int y0]) := by
  obtain ⟨⟨hx, hb, hml, hown, hts⟩, hr, hlk⟩ := id X
  replace hf : (if y0 = 0 then (f2_dueAfterEnd_52 ((-1))) else (f2_dueAfterEnd_52 1)) = some t := hf
  refine lv_istore_n (lv' := [(2, .int y0)]) hx hb dX2_dueAfterEnd_42 rfl hl (by decide) rfl (fun ls hl => ?_)
  refine lv_iload_n hx hb dX2_dueAfterEnd_43 rfl (lv_at hl 0 rfl) ?_
  refine lv_if_eq (tgt := 51) hx hb dX2_dueAfterEnd_44 (by decide) (fun c1 => ?_) (fun c1 => ?_)
  · have hf := it_t c1 hf
    refine lv_iconst (v := (-1)) hx hb dX2_dueAfterEnd_51 (by decide) ?_
    exact w2_dueAfterEnd_52 X  (lv_sub hl [] rfl) hf
  · have hf := it_f c1 hf
    refine lv_iconst (v := 1) hx hb dX2_dueAfterEnd_47 (by decide) ?_
    refine lv_goto (tgt := 52) hx hb dX2_dueAfterEnd_48 (by decide) ?_
    exact w2_dueAfterEnd_52 X  (lv_sub hl [] rfl) hf
def f2_dueAfterEnd_41 : Option (Int32) := f2_dueAfterEnd_42 0
set_option maxRecDepth 100000 in
set_option maxHeartbeats 4000000 in
theorem w2_dueAfterEnd_41 {p : Program} {l : Launch} {e : Env} {s : State} {m : MethodId} {args : Array Value} {below : List Frame} {meth : Method} {c : Code} (X : sX p s m args meth c cX2_dueAfterEnd 3 RX2 (some .int)) {t : Int32}  {ls : Array Slot} (hl : lv_has ls 3 []) (hf : f2_dueAfterEnd_41  = some t) : W p l e rm2_dueAfterEnd s m args below meth c s.heap [] 0 0 (MQ below (QcRead t) args s 0 0 (fun _ => False)) (F0 m 41 ls []) := by
  obtain ⟨⟨hx, hb, hml, hown, hts⟩, hr, hlk⟩ := id X
  replace hf : (f2_dueAfterEnd_42 0) = some t := hf
  refine lv_iconst (v := 0) hx hb dX2_dueAfterEnd_41 (by decide) ?_
  exact w2_dueAfterEnd_42 X  (lv_sub hl [] rfl) hf
def f2_dueAfterEnd_37 : Option (Int32) := f2_dueAfterEnd_42 1
set_option maxRecDepth 100000 in
set_option maxHeartbeats 4000000 in
theorem w2_dueAfterEnd_37 {p : Program} {l : Launch} {e : Env} {s : State} {m : MethodId} {args : Array Value} {below : List Frame} {meth : Method} {c : Code} (X : sX p s m args meth c cX2_dueAfterEnd 3 RX2 (some .int)) {t : Int32}  {ls : Array Slot} (hl : lv_has ls 3 []) (hf : f2_dueAfterEnd_37  = some t) : W p l e rm2_dueAfterEnd s m args below meth c s.heap [] 0 0 (MQ below (QcRead t) args s 0 0 (fun _ => False)) (F0 m 37 ls []) := by
  obtain ⟨⟨hx, hb, hml, hown, hts⟩, hr, hlk⟩ := id X
  replace hf : (f2_dueAfterEnd_42 1) = some t := hf
  refine lv_iconst (v := 1) hx hb dX2_dueAfterEnd_37 (by decide) ?_
  refine lv_goto (tgt := 42) hx hb dX2_dueAfterEnd_38 (by decide) ?_
  exact w2_dueAfterEnd_42 X  (lv_sub hl [] rfl) hf
def f2_dueAfterEnd_25 (x0 : Int32) (x1 : Int32) : Option (Int32) := if x0 = 11 then (if x1 = 48 then (f2_dueAfterEnd_37 ) else (f2_dueAfterEnd_41 )) else (f2_dueAfterEnd_41 )
set_option maxRecDepth 100000 in
set_option maxHeartbeats 4000000 in
theorem w2_dueAfterEnd_25 {p : Program} {l : Launch} {e : Env} {s : State} {m : MethodId} {args : Array Value} {below : List Frame} {meth : Method} {c : Code} (X : sX p s m args meth c cX2_dueAfterEnd 3 RX2 (some .int)) {x0 : Int32} {x1 : Int32} {t : Int32}  {ls : Array Slot} (hl : lv_has ls 3 [(0, .int x0), (1, .int x1)]) (hf : f2_dueAfterEnd_25 x0 x1 = some t) : W p l e rm2_dueAfterEnd s m args below meth c s.heap [] 0 0 (MQ below (QcRead t) args s 0 0 (fun _ => False)) (F0 m 25 ls []) := by
  obtain ⟨⟨hx, hb, hml, hown, hts⟩, hr, hlk⟩ := id X
  replace hf : (if x0 = 11 then (if x1 = 48 then (f2_dueAfterEnd_37 ) else (f2_dueAfterEnd_41 )) else (f2_dueAfterEnd_41 )) = some t := hf
  refine lv_iload_n hx hb dX2_dueAfterEnd_25 rfl (lv_at hl 0 rfl) ?_
  refine lv_bipush (v := 11) hx hb dX2_dueAfterEnd_26 (by decide) ?_
  refine lv_icmp_ne (tgt := 41) hx hb dX2_dueAfterEnd_28 (by decide) (fun c1 => ?_) (fun c1 => ?_)
  · have hf := it_f c1 hf
    exact w2_dueAfterEnd_41 X  (lv_sub hl [] rfl) hf
  · have hf := it_t c1 hf
    refine lv_iload_n hx hb dX2_dueAfterEnd_31 rfl (lv_at hl 1 rfl) ?_
    refine lv_bipush (v := 48) hx hb dX2_dueAfterEnd_32 (by decide) ?_
    refine lv_icmp_ne (tgt := 41) hx hb dX2_dueAfterEnd_34 (by decide) (fun c2 => ?_) (fun c2 => ?_)
    · have hf := it_f c2 hf
      exact w2_dueAfterEnd_41 X  (lv_sub hl [] rfl) hf
    · have hf := it_t c2 hf
      exact w2_dueAfterEnd_37 X  (lv_sub hl [] rfl) hf
def f2_dueAfterEnd_0 (x0 : Int32) (x1 : Int32) : Option (Int32) := if x1 = 59 then (some 0) else (if x0 = 10 then (Option.bind (f2_isDigit_0 x1 48 57) (fun t3 => if t3 = 0 then (f2_dueAfterEnd_25 x0 x1) else (f2_dueAfterEnd_37 ))) else (f2_dueAfterEnd_25 x0 x1))
set_option maxRecDepth 100000 in
set_option maxHeartbeats 4000000 in
theorem w2_dueAfterEnd_0 {p : Program} {l : Launch} {e : Env} {s : State} {m : MethodId} {args : Array Value} {below : List Frame} {meth : Method} {c : Code} (X : sX p s m args meth c cX2_dueAfterEnd 3 RX2 (some .int)) {x0 : Int32} {x1 : Int32} {t : Int32}  {ls : Array Slot} (hl : lv_has ls 3 [(0, .int x0), (1, .int x1)]) (hf : f2_dueAfterEnd_0 x0 x1 = some t) : W p l e rm2_dueAfterEnd s m args below meth c s.heap [] 0 0 (MQ below (QcRead t) args s 0 0 (fun _ => False)) (F0 m 0 ls []) := by
  obtain ⟨⟨hx, hb, hml, hown, hts⟩, hr, hlk⟩ := id X
  replace hf : (if x1 = 59 then (some 0) else (if x0 = 10 then (Option.bind (f2_isDigit_0 x1 48 57) (fun t3 => if t3 = 0 then (f2_dueAfterEnd_25 x0 x1) else (f2_dueAfterEnd_37 ))) else (f2_dueAfterEnd_25 x0 x1))) = some t := hf
  refine lv_iload_n hx hb dX2_dueAfterEnd_0 rfl (lv_at hl 1 rfl) ?_
  refine lv_bipush (v := 59) hx hb dX2_dueAfterEnd_1 (by decide) ?_
  refine lv_icmp_ne (tgt := 8) hx hb dX2_dueAfterEnd_3 (by decide) (fun c1 => ?_) (fun c1 => ?_)
  · have hf := it_f c1 hf
    refine lv_iload_n hx hb dX2_dueAfterEnd_8 rfl (lv_at hl 0 rfl) ?_
    refine lv_bipush (v := 10) hx hb dX2_dueAfterEnd_9 (by decide) ?_
    refine lv_icmp_ne (tgt := 25) hx hb dX2_dueAfterEnd_11 (by decide) (fun c2 => ?_) (fun c2 => ?_)
    · have hf := it_f c2 hf
      exact w2_dueAfterEnd_25 X  (lv_sub hl [0, 1] rfl) hf
    · have hf := it_t c2 hf
      refine lv_iload_n hx hb dX2_dueAfterEnd_14 rfl (lv_at hl 1 rfl) ?_
      refine lv_bipush (v := 48) hx hb dX2_dueAfterEnd_15 (by decide) ?_
      refine lv_bipush (v := 57) hx hb dX2_dueAfterEnd_17 (by decide) ?_
      obtain ⟨t3, ht3, hf⟩ := bd_o hf
      refine k2_isDigit X.1 hl.1 qX2_31 ⟨Nat.le_of_ble_eq_true rfl, Nat.le_of_ble_eq_true rfl⟩ ht3 (Nat.le_of_ble_eq_true rfl) dX2_dueAfterEnd_19 ⟨Nat.zero_le _, Nat.zero_le _⟩ ?_
      refine lv_if_ne (tgt := 37) hx hb dX2_dueAfterEnd_22 (by decide) (fun c4 => ?_) (fun c4 => ?_)
      · have hf := it_f c4 hf
        exact w2_dueAfterEnd_37 X  (lv_sub hl [] rfl) hf
      · have hf := it_t c4 hf
        exact w2_dueAfterEnd_25 X  (lv_sub hl [0, 1] rfl) hf
  · have hf := it_t c1 hf
    refine lv_iconst (v := 0) hx hb dX2_dueAfterEnd_6 (by decide) ?_
    obtain rfl := so_i hf
    exact rd_i hx hb hr hlk dX2_dueAfterEnd_7
set_option maxRecDepth 100000 in
set_option maxHeartbeats 4000000 in
theorem c2_dueAfterEnd (l : Launch) (x0 : Int32) (x1 : Int32) {t : Int32} (hf : f2_dueAfterEnd_0 x0 x1 = some t) : Met l yX2_dueAfterEnd uX2_dueAfterEnd rm2_dueAfterEnd (fun v _ => v = ([.int x0, .int x1] : List Value).toArray) (QcRead t) 0 0 (fun _ => False) := by
  refine Met.ofW (cc := cX2_dueAfterEnd) (maxL := 3) (ret := (some .int)) (by decide) rfl ?_
  intro p e s m args below meth c s₁ B hml hv
  obtain rfl := hv
  have X : sX p s m ([.int x0, .int x1] : List Value).toArray meth c cX2_dueAfterEnd 3 RX2 (some .int) := ⟨⟨B.exec, B.bytes, hml, findClass_of_methodNamed B.named, fun w h => atoms_spec (ws := uX2_dueAfterEnd) B.pre w (List.mem_cons_of_mem _ h)⟩, B.returns, B.notSynchronized⟩
  have hl := lv_entry ([.int x0, .int x1]) (n := 3) (Nat.le_of_ble_eq_true rfl)
  rw [lg_entry_eq]
  generalize (lg_sl ([.int x0, .int x1]) ++ List.replicate (3 - (lg_sl ([.int x0, .int x1])).length) Slot.unset).toArray = ls at hl ⊢
  have hl : lv_has ls 3 [(0, .int x0), (1, .int x1)] := hl
  exact w2_dueAfterEnd_0 X (lv_sub hl [0, 1] rfl) hf
set_option maxRecDepth 100000 in
set_option maxHeartbeats 4000000 in
theorem k2_dueAfterEnd {p : Program} {l : Launch} {e : Env} {R : Room} {s : State} {m : MethodId} {args : Array Value} {below : List Frame} {meth : Method} {c : Code} {cc : ByteArray} {nL : Nat} {own : String} {H : Heap} {locs : List Loc} {cells slots : Nat} {Q : State → Prop} {pc : Nat} {ls : Array Slot} {rest : List Value} (S : CallFix p m c cc nL s args gw own) (hls : ls.size = nL) {index : Nat} (hG : GoodIn gw (va_wsS own index yX2_dueAfterEnd uX2_dueAfterEnd)) (hR : rm2_dueAfterEnd.frames + 1 ≤ R.frames ∧ 8 + (3 + 11) + rm2_dueAfterEnd.locals ≤ R.locals) {x0 : Int32} {x1 : Int32} {t : Int32} (hf : f2_dueAfterEnd_0 x0 x1 = some t) (hrest : (rest.map fun v => v.category).sum ≤ 8) (hdg : decode cc pc = .ok (.invokestatic index, 3)) (hc : cells ≤ R.cells ∧ slots ≤ R.slots) (kk : W p l e R s m args below meth c H locs cells slots Q (F0 m (pc + 3) ls (.int t :: rest))) : W p l e R s m args below meth c H locs cells slots Q (F0 m pc ls (.int x1 :: .int x0 :: rest)) :=
  W.callR (W.runS S (c2_dueAfterEnd l x0 x1 hf) (va_cwS 2 S.2.2.2.2 hG rfl rfl rfl (by decide +kernel) hR) preEq rfl rfl hls rfl (lv_room hrest) hdg hc) kk
/-! OreRailway$OrderText.dueAfter(IC)I -/
def rm2_dueAfter : Room := { frames := 2, cells := 0, slots := 0, locals := 44 }
def f2_dueAfter_161 (y0 : Int32) : Option (Int32) := some y0
set_option maxRecDepth 100000 in
set_option maxHeartbeats 4000000 in
theorem w2_dueAfter_161 {p : Program} {l : Launch} {e : Env} {s : State} {m : MethodId} {args : Array Value} {below : List Frame} {meth : Method} {c : Code} (X : sX p s m args meth c cX2_dueAfter 2 RX2 (some .int)) {y0 : Int32} {t : Int32}  {ls : Array Slot} (hl : lv_has ls 2 []) (hf : f2_dueAfter_161 y0 = some t) : W p l e rm2_dueAfter s m args below meth c s.heap [] 0 0 (MQ below (QcRead t) args s 0 0 (fun _ => False)) (F0 m 161 ls [.int y0]) := by
  obtain ⟨⟨hx, hb, hml, hown, hts⟩, hr, hlk⟩ := id X
  replace hf : (some y0) = some t := hf
  obtain rfl := so_i hf
  exact rd_i hx hb hr hlk dX2_dueAfter_161
def f2_dueAfter_144 (y0 : Int32) : Option (Int32) := some y0
set_option maxRecDepth 100000 in
set_option maxHeartbeats 4000000 in
theorem w2_dueAfter_144 {p : Program} {l : Launch} {e : Env} {s : State} {m : MethodId} {args : Array Value} {below : List Frame} {meth : Method} {c : Code} (X : sX p s m args meth c cX2_dueAfter 2 RX2 (some .int)) {y0 : Int32} {t : Int32}  {ls : Array Slot} (hl : lv_has ls 2 []) (hf : f2_dueAfter_144 y0 = some t) : W p l e rm2_dueAfter s m args below meth c s.heap [] 0 0 (MQ below (QcRead t) args s 0 0 (fun _ => False)) (F0 m 144 ls [.int y0]) := by
  obtain ⟨⟨hx, hb, hml, hown, hts⟩, hr, hlk⟩ := id X
  replace hf : (some y0) = some t := hf
  obtain rfl := so_i hf
  exact rd_i hx hb hr hlk dX2_dueAfter_144
def f2_dueAfter_127 (y0 : Int32) : Option (Int32) := some y0
set_option maxRecDepth 100000 in
set_option maxHeartbeats 4000000 in
theorem w2_dueAfter_127 {p : Program} {l : Launch} {e : Env} {s : State} {m : MethodId} {args : Array Value} {below : List Frame} {meth : Method} {c : Code} (X : sX p s m args meth c cX2_dueAfter 2 RX2 (some .int)) {y0 : Int32} {t : Int32}  {ls : Array Slot} (hl : lv_has ls 2 []) (hf : f2_dueAfter_127 y0 = some t) : W p l e rm2_dueAfter s m args below meth c s.heap [] 0 0 (MQ below (QcRead t) args s 0 0 (fun _ => False)) (F0 m 127 ls [.int y0]) := by
  obtain ⟨⟨hx, hb, hml, hown, hts⟩, hr, hlk⟩ := id X
  replace hf : (some y0) = some t := hf
  obtain rfl := so_i hf
  exact rd_i hx hb hr hlk dX2_dueAfter_127
def f2_dueAfter_114 (y0 : Int32) : Option (Int32) := some y0
set_option maxRecDepth 100000 in
set_option maxHeartbeats 4000000 in
theorem w2_dueAfter_114 {p : Program} {l : Launch} {e : Env} {s : State} {m : MethodId} {args : Array Value} {below : List Frame} {meth : Method} {c : Code} (X : sX p s m args meth c cX2_dueAfter 2 RX2 (some .int)) {y0 : Int32} {t : Int32}  {ls : Array Slot} (hl : lv_has ls 2 []) (hf : f2_dueAfter_114 y0 = some t) : W p l e rm2_dueAfter s m args below meth c s.heap [] 0 0 (MQ below (QcRead t) args s 0 0 (fun _ => False)) (F0 m 114 ls [.int y0]) := by
  obtain ⟨⟨hx, hb, hml, hown, hts⟩, hr, hlk⟩ := id X
  replace hf : (some y0) = some t := hf
  obtain rfl := so_i hf
  exact rd_i hx hb hr hlk dX2_dueAfter_114
def f2_dueAfter_89 (y0 : Int32) : Option (Int32) := some y0
set_option maxRecDepth 100000 in
set_option maxHeartbeats 4000000 in
theorem w2_dueAfter_89 {p : Program} {l : Launch} {e : Env} {s : State} {m : MethodId} {args : Array Value} {below : List Frame} {meth : Method} {c : Code} (X : sX p s m args meth c cX2_dueAfter 2 RX2 (some .int)) {y0 : Int32} {t : Int32}  {ls : Array Slot} (hl : lv_has ls 2 []) (hf : f2_dueAfter_89 y0 = some t) : W p l e rm2_dueAfter s m args below meth c s.heap [] 0 0 (MQ below (QcRead t) args s 0 0 (fun _ => False)) (F0 m 89 ls [.int y0]) := by
  obtain ⟨⟨hx, hb, hml, hown, hts⟩, hr, hlk⟩ := id X
  replace hf : (some y0) = some t := hf
  obtain rfl := so_i hf
  exact rd_i hx hb hr hlk dX2_dueAfter_89
def f2_dueAfter_77 (y0 : Int32) : Option (Int32) := some y0
set_option maxRecDepth 100000 in
set_option maxHeartbeats 4000000 in
theorem w2_dueAfter_77 {p : Program} {l : Launch} {e : Env} {s : State} {m : MethodId} {args : Array Value} {below : List Frame} {meth : Method} {c : Code} (X : sX p s m args meth c cX2_dueAfter 2 RX2 (some .int)) {y0 : Int32} {t : Int32}  {ls : Array Slot} (hl : lv_has ls 2 []) (hf : f2_dueAfter_77 y0 = some t) : W p l e rm2_dueAfter s m args below meth c s.heap [] 0 0 (MQ below (QcRead t) args s 0 0 (fun _ => False)) (F0 m 77 ls [.int y0]) := by
  obtain ⟨⟨hx, hb, hml, hown, hts⟩, hr, hlk⟩ := id X
  replace hf : (some y0) = some t := hf
  obtain rfl := so_i hf
  exact rd_i hx hb hr hlk dX2_dueAfter_77
def f2_dueAfter_0 (x0 : Int32) (x1 : Int32) : Option (Int32) := if x0 = 0 then (Option.bind (f2_dueAfterLetter_0 x1) (fun t2 => some t2)) else (if x0 = 1 then (Option.bind (f2_dueAfterEnd_0 x0 x1) (fun t4 => some t4)) else (if x0 = 2 then (Option.bind (f2_isDigit_0 x1 48 55) (fun t6 => if t6 = 0 then (f2_dueAfter_77 ((-1))) else (f2_dueAfter_77 3))) else (if x0 = 3 then (if x1 = 43 then (f2_dueAfter_89 4) else (f2_dueAfter_89 ((-1)))) else (if x0 = 4 then (Option.bind (f2_dueAfterFirstDigit_0 x1 50) (fun t11 => some t11)) else (if x0 = 5 then (Option.bind (f2_isDigit_0 x1 48 55) (fun t13 => if t13 = 0 then (f2_dueAfter_114 ((-1))) else (f2_dueAfter_114 6))) else (if x0 = 6 then (if x1 = 47 then (f2_dueAfter_127 7) else (f2_dueAfter_127 ((-1)))) else (if x0 = 7 then (Option.bind (f2_isDigit_0 x1 48 57) (fun t18 => if t18 = 0 then (f2_dueAfter_144 ((-1))) else (f2_dueAfter_144 1))) else (if x0 = 8 then (Option.bind (f2_isDigit_0 x1 48 55) (fun t21 => if t21 = 0 then (f2_dueAfter_161 ((-1))) else (f2_dueAfter_161 1))) else (if x0 = 9 then (Option.bind (f2_dueAfterFirstDigit_0 x1 54) (fun t24 => some t24)) else (Option.bind (f2_dueAfterEnd_0 x0 x1) (fun t25 => some t25)))))))))))
set_option maxRecDepth 100000 in
set_option maxHeartbeats 4000000 in
theorem w2_dueAfter_0 {p : Program} {l : Launch} {e : Env} {s : State} {m : MethodId} {args : Array Value} {below : List Frame} {meth : Method} {c : Code} (X : sX p s m args meth c cX2_dueAfter 2 RX2 (some .int)) {x0 : Int32} {x1 : Int32} {t : Int32}  {ls : Array Slot} (hl : lv_has ls 2 [(0, .int x0), (1, .int x1)]) (hf : f2_dueAfter_0 x0 x1 = some t) : W p l e rm2_dueAfter s m args below meth c s.heap [] 0 0 (MQ below (QcRead t) args s 0 0 (fun _ => False)) (F0 m 0 ls []) := by
  obtain ⟨⟨hx, hb, hml, hown, hts⟩, hr, hlk⟩ := id X
  replace hf : (if x0 = 0 then (Option.bind (f2_dueAfterLetter_0 x1) (fun t2 => some t2)) else (if x0 = 1 then (Option.bind (f2_dueAfterEnd_0 x0 x1) (fun t4 => some t4)) else (if x0 = 2 then (Option.bind (f2_isDigit_0 x1 48 55) (fun t6 => if t6 = 0 then (f2_dueAfter_77 ((-1))) else (f2_dueAfter_77 3))) else (if x0 = 3 then (if x1 = 43 then (f2_dueAfter_89 4) else (f2_dueAfter_89 ((-1)))) else (if x0 = 4 then (Option.bind (f2_dueAfterFirstDigit_0 x1 50) (fun t11 => some t11)) else (if x0 = 5 then (Option.bind (f2_isDigit_0 x1 48 55) (fun t13 => if t13 = 0 then (f2_dueAfter_114 ((-1))) else (f2_dueAfter_114 6))) else (if x0 = 6 then (if x1 = 47 then (f2_dueAfter_127 7) else (f2_dueAfter_127 ((-1)))) else (if x0 = 7 then (Option.bind (f2_isDigit_0 x1 48 57) (fun t18 => if t18 = 0 then (f2_dueAfter_144 ((-1))) else (f2_dueAfter_144 1))) else (if x0 = 8 then (Option.bind (f2_isDigit_0 x1 48 55) (fun t21 => if t21 = 0 then (f2_dueAfter_161 ((-1))) else (f2_dueAfter_161 1))) else (if x0 = 9 then (Option.bind (f2_dueAfterFirstDigit_0 x1 54) (fun t24 => some t24)) else (Option.bind (f2_dueAfterEnd_0 x0 x1) (fun t25 => some t25)))))))))))) = some t := hf
  refine lv_iload_n hx hb dX2_dueAfter_0 rfl (lv_at hl 0 rfl) ?_
  by_cases c1 : x0 = 0
  · have hf := it_t c1 hf
    refine lv_tableIn (off := 55) (tgt := 56) hx hb dX2_dueAfter_1 (by rw [c1]; decide) (by rw [c1]; decide) (by rw [c1]; rfl) (by decide) ?_
    refine lv_iload_n hx hb dX2_dueAfter_56 rfl (lv_at hl 1 rfl) ?_
    obtain ⟨t2, ht2, hf⟩ := bd_o hf
    refine k2_dueAfterLetter X.1 hl.1 qX2_27 ⟨Nat.le_of_ble_eq_true rfl, Nat.le_of_ble_eq_true rfl⟩ ht2 (Nat.le_of_ble_eq_true rfl) dX2_dueAfter_57 ⟨Nat.zero_le _, Nat.zero_le _⟩ ?_
    obtain rfl := so_i hf
    exact rd_i hx hb hr hlk dX2_dueAfter_60
  · have hf := it_f c1 hf
    by_cases c3 : x0 = 1
    · have hf := it_t c3 hf
      refine lv_tableIn (off := 168) (tgt := 169) hx hb dX2_dueAfter_1 (by rw [c3]; decide) (by rw [c3]; decide) (by rw [c3]; rfl) (by decide) ?_
      refine lv_iload_n hx hb dX2_dueAfter_169 rfl (lv_at hl 0 rfl) ?_
      refine lv_iload_n hx hb dX2_dueAfter_170 rfl (lv_at hl 1 rfl) ?_
      obtain ⟨t4, ht4, hf⟩ := bd_o hf
      refine k2_dueAfterEnd X.1 hl.1 qX2_39 ⟨Nat.le_of_ble_eq_true rfl, Nat.le_of_ble_eq_true rfl⟩ ht4 (Nat.le_of_ble_eq_true rfl) dX2_dueAfter_171 ⟨Nat.zero_le _, Nat.zero_le _⟩ ?_
      obtain rfl := so_i hf
      exact rd_i hx hb hr hlk dX2_dueAfter_174
    · have hf := it_f c3 hf
      by_cases c5 : x0 = 2
      · have hf := it_t c5 hf
        refine lv_tableIn (off := 60) (tgt := 61) hx hb dX2_dueAfter_1 (by rw [c5]; decide) (by rw [c5]; decide) (by rw [c5]; rfl) (by decide) ?_
        refine lv_iload_n hx hb dX2_dueAfter_61 rfl (lv_at hl 1 rfl) ?_
        refine lv_bipush (v := 48) hx hb dX2_dueAfter_62 (by decide) ?_
        refine lv_bipush (v := 55) hx hb dX2_dueAfter_64 (by decide) ?_
        obtain ⟨t6, ht6, hf⟩ := bd_o hf
        refine k2_isDigit X.1 hl.1 qX2_31 ⟨Nat.le_of_ble_eq_true rfl, Nat.le_of_ble_eq_true rfl⟩ ht6 (Nat.le_of_ble_eq_true rfl) dX2_dueAfter_66 ⟨Nat.zero_le _, Nat.zero_le _⟩ ?_
        refine lv_if_eq (tgt := 76) hx hb dX2_dueAfter_69 (by decide) (fun c7 => ?_) (fun c7 => ?_)
        · have hf := it_t c7 hf
          refine lv_iconst (v := (-1)) hx hb dX2_dueAfter_76 (by decide) ?_
          exact w2_dueAfter_77 X  (lv_sub hl [] rfl) hf
        · have hf := it_f c7 hf
          refine lv_iconst (v := 3) hx hb dX2_dueAfter_72 (by decide) ?_
          refine lv_goto (tgt := 77) hx hb dX2_dueAfter_73 (by decide) ?_
          exact w2_dueAfter_77 X  (lv_sub hl [] rfl) hf
      · have hf := it_f c5 hf
        by_cases c8 : x0 = 3
        · have hf := it_t c8 hf
          refine lv_tableIn (off := 77) (tgt := 78) hx hb dX2_dueAfter_1 (by rw [c8]; decide) (by rw [c8]; decide) (by rw [c8]; rfl) (by decide) ?_
          refine lv_iload_n hx hb dX2_dueAfter_78 rfl (lv_at hl 1 rfl) ?_
          refine lv_bipush (v := 43) hx hb dX2_dueAfter_79 (by decide) ?_
          refine lv_icmp_ne (tgt := 88) hx hb dX2_dueAfter_81 (by decide) (fun c9 => ?_) (fun c9 => ?_)
          · have hf := it_f c9 hf
            refine lv_iconst (v := (-1)) hx hb dX2_dueAfter_88 (by decide) ?_
            exact w2_dueAfter_89 X  (lv_sub hl [] rfl) hf
          · have hf := it_t c9 hf
            refine lv_iconst (v := 4) hx hb dX2_dueAfter_84 (by decide) ?_
            refine lv_goto (tgt := 89) hx hb dX2_dueAfter_85 (by decide) ?_
            exact w2_dueAfter_89 X  (lv_sub hl [] rfl) hf
        · have hf := it_f c8 hf
          by_cases c10 : x0 = 4
          · have hf := it_t c10 hf
            refine lv_tableIn (off := 89) (tgt := 90) hx hb dX2_dueAfter_1 (by rw [c10]; decide) (by rw [c10]; decide) (by rw [c10]; rfl) (by decide) ?_
            refine lv_iload_n hx hb dX2_dueAfter_90 rfl (lv_at hl 1 rfl) ?_
            refine lv_bipush (v := 50) hx hb dX2_dueAfter_91 (by decide) ?_
            obtain ⟨t11, ht11, hf⟩ := bd_o hf
            refine k2_dueAfterFirstDigit X.1 hl.1 qX2_35 ⟨Nat.le_of_ble_eq_true rfl, Nat.le_of_ble_eq_true rfl⟩ ht11 (Nat.le_of_ble_eq_true rfl) dX2_dueAfter_93 ⟨Nat.zero_le _, Nat.zero_le _⟩ ?_
            obtain rfl := so_i hf
            exact rd_i hx hb hr hlk dX2_dueAfter_96
          · have hf := it_f c10 hf
            by_cases c12 : x0 = 5
            · have hf := it_t c12 hf
              refine lv_tableIn (off := 96) (tgt := 97) hx hb dX2_dueAfter_1 (by rw [c12]; decide) (by rw [c12]; decide) (by rw [c12]; rfl) (by decide) ?_
              refine lv_iload_n hx hb dX2_dueAfter_97 rfl (lv_at hl 1 rfl) ?_
              refine lv_bipush (v := 48) hx hb dX2_dueAfter_98 (by decide) ?_
              refine lv_bipush (v := 55) hx hb dX2_dueAfter_100 (by decide) ?_
              obtain ⟨t13, ht13, hf⟩ := bd_o hf
              refine k2_isDigit X.1 hl.1 qX2_31 ⟨Nat.le_of_ble_eq_true rfl, Nat.le_of_ble_eq_true rfl⟩ ht13 (Nat.le_of_ble_eq_true rfl) dX2_dueAfter_102 ⟨Nat.zero_le _, Nat.zero_le _⟩ ?_
              refine lv_if_eq (tgt := 113) hx hb dX2_dueAfter_105 (by decide) (fun c14 => ?_) (fun c14 => ?_)
              · have hf := it_t c14 hf
                refine lv_iconst (v := (-1)) hx hb dX2_dueAfter_113 (by decide) ?_
                exact w2_dueAfter_114 X  (lv_sub hl [] rfl) hf
              · have hf := it_f c14 hf
                refine lv_bipush (v := 6) hx hb dX2_dueAfter_108 (by decide) ?_
                refine lv_goto (tgt := 114) hx hb dX2_dueAfter_110 (by decide) ?_
                exact w2_dueAfter_114 X  (lv_sub hl [] rfl) hf
            · have hf := it_f c12 hf
              by_cases c15 : x0 = 6
              · have hf := it_t c15 hf
                refine lv_tableIn (off := 114) (tgt := 115) hx hb dX2_dueAfter_1 (by rw [c15]; decide) (by rw [c15]; decide) (by rw [c15]; rfl) (by decide) ?_
                refine lv_iload_n hx hb dX2_dueAfter_115 rfl (lv_at hl 1 rfl) ?_
                refine lv_bipush (v := 47) hx hb dX2_dueAfter_116 (by decide) ?_
                refine lv_icmp_ne (tgt := 126) hx hb dX2_dueAfter_118 (by decide) (fun c16 => ?_) (fun c16 => ?_)
                · have hf := it_f c16 hf
                  refine lv_iconst (v := (-1)) hx hb dX2_dueAfter_126 (by decide) ?_
                  exact w2_dueAfter_127 X  (lv_sub hl [] rfl) hf
                · have hf := it_t c16 hf
                  refine lv_bipush (v := 7) hx hb dX2_dueAfter_121 (by decide) ?_
                  refine lv_goto (tgt := 127) hx hb dX2_dueAfter_123 (by decide) ?_
                  exact w2_dueAfter_127 X  (lv_sub hl [] rfl) hf
              · have hf := it_f c15 hf
                by_cases c17 : x0 = 7
                · have hf := it_t c17 hf
                  refine lv_tableIn (off := 127) (tgt := 128) hx hb dX2_dueAfter_1 (by rw [c17]; decide) (by rw [c17]; decide) (by rw [c17]; rfl) (by decide) ?_
                  refine lv_iload_n hx hb dX2_dueAfter_128 rfl (lv_at hl 1 rfl) ?_
                  refine lv_bipush (v := 48) hx hb dX2_dueAfter_129 (by decide) ?_
                  refine lv_bipush (v := 57) hx hb dX2_dueAfter_131 (by decide) ?_
                  obtain ⟨t18, ht18, hf⟩ := bd_o hf
                  refine k2_isDigit X.1 hl.1 qX2_31 ⟨Nat.le_of_ble_eq_true rfl, Nat.le_of_ble_eq_true rfl⟩ ht18 (Nat.le_of_ble_eq_true rfl) dX2_dueAfter_133 ⟨Nat.zero_le _, Nat.zero_le _⟩ ?_
                  refine lv_if_eq (tgt := 143) hx hb dX2_dueAfter_136 (by decide) (fun c19 => ?_) (fun c19 => ?_)
                  · have hf := it_t c19 hf
                    refine lv_iconst (v := (-1)) hx hb dX2_dueAfter_143 (by decide) ?_
                    exact w2_dueAfter_144 X  (lv_sub hl [] rfl) hf
                  · have hf := it_f c19 hf
                    refine lv_iconst (v := 1) hx hb dX2_dueAfter_139 (by decide) ?_
                    refine lv_goto (tgt := 144) hx hb dX2_dueAfter_140 (by decide) ?_
                    exact w2_dueAfter_144 X  (lv_sub hl [] rfl) hf
                · have hf := it_f c17 hf
                  by_cases c20 : x0 = 8
                  · have hf := it_t c20 hf
                    refine lv_tableIn (off := 144) (tgt := 145) hx hb dX2_dueAfter_1 (by rw [c20]; decide) (by rw [c20]; decide) (by rw [c20]; rfl) (by decide) ?_
                    refine lv_iload_n hx hb dX2_dueAfter_145 rfl (lv_at hl 1 rfl) ?_
                    refine lv_bipush (v := 48) hx hb dX2_dueAfter_146 (by decide) ?_
                    refine lv_bipush (v := 55) hx hb dX2_dueAfter_148 (by decide) ?_
                    obtain ⟨t21, ht21, hf⟩ := bd_o hf
                    refine k2_isDigit X.1 hl.1 qX2_31 ⟨Nat.le_of_ble_eq_true rfl, Nat.le_of_ble_eq_true rfl⟩ ht21 (Nat.le_of_ble_eq_true rfl) dX2_dueAfter_150 ⟨Nat.zero_le _, Nat.zero_le _⟩ ?_
                    refine lv_if_eq (tgt := 160) hx hb dX2_dueAfter_153 (by decide) (fun c22 => ?_) (fun c22 => ?_)
                    · have hf := it_t c22 hf
                      refine lv_iconst (v := (-1)) hx hb dX2_dueAfter_160 (by decide) ?_
                      exact w2_dueAfter_161 X  (lv_sub hl [] rfl) hf
                    · have hf := it_f c22 hf
                      refine lv_iconst (v := 1) hx hb dX2_dueAfter_156 (by decide) ?_
                      refine lv_goto (tgt := 161) hx hb dX2_dueAfter_157 (by decide) ?_
                      exact w2_dueAfter_161 X  (lv_sub hl [] rfl) hf
                  · have hf := it_f c20 hf
                    by_cases c23 : x0 = 9
                    · have hf := it_t c23 hf
                      refine lv_tableIn (off := 161) (tgt := 162) hx hb dX2_dueAfter_1 (by rw [c23]; decide) (by rw [c23]; decide) (by rw [c23]; rfl) (by decide) ?_
                      refine lv_iload_n hx hb dX2_dueAfter_162 rfl (lv_at hl 1 rfl) ?_
                      refine lv_bipush (v := 54) hx hb dX2_dueAfter_163 (by decide) ?_
                      obtain ⟨t24, ht24, hf⟩ := bd_o hf
                      refine k2_dueAfterFirstDigit X.1 hl.1 qX2_35 ⟨Nat.le_of_ble_eq_true rfl, Nat.le_of_ble_eq_true rfl⟩ ht24 (Nat.le_of_ble_eq_true rfl) dX2_dueAfter_165 ⟨Nat.zero_le _, Nat.zero_le _⟩ ?_
                      obtain rfl := so_i hf
                      exact rd_i hx hb hr hlk dX2_dueAfter_168
                    · have hf := it_f c23 hf
                      have nc1 : ¬ Int32.toInt x0 = 0 := ne_ti c1 (by decide)
                      have nc3 : ¬ Int32.toInt x0 = 1 := ne_ti c3 (by decide)
                      have nc5 : ¬ Int32.toInt x0 = 2 := ne_ti c5 (by decide)
                      have nc8 : ¬ Int32.toInt x0 = 3 := ne_ti c8 (by decide)
                      have nc10 : ¬ Int32.toInt x0 = 4 := ne_ti c10 (by decide)
                      have nc12 : ¬ Int32.toInt x0 = 5 := ne_ti c12 (by decide)
                      have nc15 : ¬ Int32.toInt x0 = 6 := ne_ti c15 (by decide)
                      have nc17 : ¬ Int32.toInt x0 = 7 := ne_ti c17 (by decide)
                      have nc20 : ¬ Int32.toInt x0 = 8 := ne_ti c20 (by decide)
                      have nc23 : ¬ Int32.toInt x0 = 9 := ne_ti c23 (by decide)
                      refine lv_tableOut (tgt := 169) hx hb dX2_dueAfter_1 (by omega) (by decide) ?_
                      refine lv_iload_n hx hb dX2_dueAfter_169 rfl (lv_at hl 0 rfl) ?_
                      refine lv_iload_n hx hb dX2_dueAfter_170 rfl (lv_at hl 1 rfl) ?_
                      obtain ⟨t25, ht25, hf⟩ := bd_o hf
                      refine k2_dueAfterEnd X.1 hl.1 qX2_39 ⟨Nat.le_of_ble_eq_true rfl, Nat.le_of_ble_eq_true rfl⟩ ht25 (Nat.le_of_ble_eq_true rfl) dX2_dueAfter_171 ⟨Nat.zero_le _, Nat.zero_le _⟩ ?_
                      obtain rfl := so_i hf
                      exact rd_i hx hb hr hlk dX2_dueAfter_174
set_option maxRecDepth 100000 in
set_option maxHeartbeats 4000000 in
theorem c2_dueAfter (l : Launch) (x0 : Int32) (x1 : Int32) {t : Int32} (hf : f2_dueAfter_0 x0 x1 = some t) : Met l yX2_dueAfter uX2_dueAfter rm2_dueAfter (fun v _ => v = ([.int x0, .int x1] : List Value).toArray) (QcRead t) 0 0 (fun _ => False) := by
  refine Met.ofW (cc := cX2_dueAfter) (maxL := 2) (ret := (some .int)) (by decide) rfl ?_
  intro p e s m args below meth c s₁ B hml hv
  obtain rfl := hv
  have X : sX p s m ([.int x0, .int x1] : List Value).toArray meth c cX2_dueAfter 2 RX2 (some .int) := ⟨⟨B.exec, B.bytes, hml, findClass_of_methodNamed B.named, fun w h => atoms_spec (ws := uX2_dueAfter) B.pre w (List.mem_cons_of_mem _ h)⟩, B.returns, B.notSynchronized⟩
  have hl := lv_entry ([.int x0, .int x1]) (n := 2) (Nat.le_of_ble_eq_true rfl)
  rw [lg_entry_eq]
  generalize (lg_sl ([.int x0, .int x1]) ++ List.replicate (2 - (lg_sl ([.int x0, .int x1])).length) Slot.unset).toArray = ls at hl ⊢
  have hl : lv_has ls 2 [(0, .int x0), (1, .int x1)] := hl
  exact w2_dueAfter_0 X (lv_sub hl [0, 1] rfl) hf
set_option maxRecDepth 100000 in
set_option maxHeartbeats 4000000 in
theorem k2_dueAfter {p : Program} {l : Launch} {e : Env} {R : Room} {s : State} {m : MethodId} {args : Array Value} {below : List Frame} {meth : Method} {c : Code} {cc : ByteArray} {nL : Nat} {own : String} {H : Heap} {locs : List Loc} {cells slots : Nat} {Q : State → Prop} {pc : Nat} {ls : Array Slot} {rest : List Value} (S : CallFix p m c cc nL s args gw own) (hls : ls.size = nL) {index : Nat} (hG : GoodIn gw (va_wsS own index yX2_dueAfter uX2_dueAfter)) (hR : rm2_dueAfter.frames + 1 ≤ R.frames ∧ 8 + (2 + 11) + rm2_dueAfter.locals ≤ R.locals) {x0 : Int32} {x1 : Int32} {t : Int32} (hf : f2_dueAfter_0 x0 x1 = some t) (hrest : (rest.map fun v => v.category).sum ≤ 8) (hdg : decode cc pc = .ok (.invokestatic index, 3)) (hc : cells ≤ R.cells ∧ slots ≤ R.slots) (kk : W p l e R s m args below meth c H locs cells slots Q (F0 m (pc + 3) ls (.int t :: rest))) : W p l e R s m args below meth c H locs cells slots Q (F0 m pc ls (.int x1 :: .int x0 :: rest)) :=
  W.callR (W.runS S (c2_dueAfter l x0 x1 hf) (va_cwS 2 S.2.2.2.2 hG rfl rfl rfl (by decide +kernel) hR) preEq rfl rfl hls rfl (lv_room hrest) hdg hc) kk
/-! OreRailway$OrderText.errorIndex()I -/
def rm2_errorIndex : Room := { frames := 3, cells := 0, slots := 0, locals := 65 }
def f2_errorIndex_4 (v0 : Nat → Int32) : Nat → Int32 → Int32 → Option (Int32)
  | 0, _, _ => none
  | n + 1, x1, x2 => if (v0 60) ≤ x2 then (some (v0 60)) else (Option.bind (f2_signAt_0 v0 x2) (fun t2 => Option.bind (f2_dueAfter_0 x1 t2) (fun t3 => if t3 = ((-1)) then (some x2) else ((f2_errorIndex_4 v0 n) t3 (x2 + 1)))))
set_option maxRecDepth 100000 in
set_option maxHeartbeats 4000000 in
theorem w2_errorIndex_4 {p : Program} {l : Launch} {e : Env} {s : State} {m : MethodId} {args : Array Value} {below : List Frame} {meth : Method} {c : Code} {D : va_G} {Y : cYt} {ad : Nat → Nat} {μ : Nat → Nat → Int32} {v0 : Nat → Int32} (X : cX D Y p s m args meth c cX2_errorIndex 3 RX2 (some .int)) (hM : μ 12 = v0) (hP : va_P D vwCl (cwW Y ad μ) s.heap) {t : Int32} :
    ∀ (n : Nat) (x1 : Int32) (x2 : Int32) (ls : Array Slot), lv_has ls 3 [(0, .ref (ad 155)), (1, .int x1), (2, .int x2)] → f2_errorIndex_4 v0 n x1 x2 = some t → W p l e rm2_errorIndex s m args below meth c s.heap [] 0 0 (MQ below (QcRead t) args s 0 0 (fun _ => False)) (F0 m 4 ls []) := by
  obtain ⟨⟨hx, hb, hml, hown, hts⟩, hr, hlk, hK⟩ := id X
  intro n
  induction n with
  | zero =>
    intro x1 x2 ls hl hf
    cases hf
  | succ n ih =>
    intro x1 x2 ls hl hf
    replace hf : (if (v0 60) ≤ x2 then (some (v0 60)) else (Option.bind (f2_signAt_0 v0 x2) (fun t2 => Option.bind (f2_dueAfter_0 x1 t2) (fun t3 => if t3 = ((-1)) then (some x2) else ((f2_errorIndex_4 v0 n) t3 (x2 + 1)))))) = some t := hf
    refine lv_iload_n hx hb dX2_errorIndex_4 rfl (lv_at hl 2 rfl) ?_
    refine lv_aload_n hx hb dX2_errorIndex_5 rfl (lv_at hl 0 rfl) ?_
    refine cr_gOr X hM hP (i := 1) (v := .int (v0 60)) (by decide) gfX2_15 rfl dX2_errorIndex_6 ?_
    refine lv_icmp_ge (tgt := 35) hx hb dX2_errorIndex_9 (by decide) (fun c1 => ?_) (fun c1 => ?_)
    · have hf := it_t c1 hf
      refine lv_aload_n hx hb dX2_errorIndex_35 rfl (lv_at hl 0 rfl) ?_
      refine cr_gOr X hM hP (i := 1) (v := .int (v0 60)) (by decide) gfX2_15 rfl dX2_errorIndex_36 ?_
      obtain rfl := so_i hf
      exact rd_i hx hb hr hlk dX2_errorIndex_39
    · have hf := it_f c1 hf
      refine lv_iload_n hx hb dX2_errorIndex_12 rfl (lv_at hl 1 rfl) ?_
      refine lv_aload_n hx hb dX2_errorIndex_13 rfl (lv_at hl 0 rfl) ?_
      refine lv_iload_n hx hb dX2_errorIndex_14 rfl (lv_at hl 2 rfl) ?_
      obtain ⟨t2, ht2, hf⟩ := bd_o hf
      refine k2_signAt X hM hP hl.1 qX2_19 ⟨Nat.le_of_ble_eq_true rfl, Nat.le_of_ble_eq_true rfl⟩ ht2 (Nat.le_of_ble_eq_true rfl) dX2_errorIndex_15 ⟨Nat.zero_le _, Nat.zero_le _⟩ ?_
      obtain ⟨t3, ht3, hf⟩ := bd_o hf
      refine k2_dueAfter X.1 hl.1 qX2_23 ⟨Nat.le_of_ble_eq_true rfl, Nat.le_of_ble_eq_true rfl⟩ ht3 (Nat.le_of_ble_eq_true rfl) dX2_errorIndex_18 ⟨Nat.zero_le _, Nat.zero_le _⟩ ?_
      refine lv_istore_n (lv' := [(1, .int t3), (0, .ref (ad 155)), (2, .int x2)]) hx hb dX2_errorIndex_21 rfl hl (by decide) rfl (fun ls hl => ?_)
      refine lv_iload_n hx hb dX2_errorIndex_22 rfl (lv_at hl 0 rfl) ?_
      refine lv_iconst (v := (-1)) hx hb dX2_errorIndex_23 (by decide) ?_
      refine lv_icmp_ne (tgt := 29) hx hb dX2_errorIndex_24 (by decide) (fun c4 => ?_) (fun c4 => ?_)
      · have hf := it_f c4 hf
        refine lv_iinc (v := x2 + 1) (lv' := [(2, .int (x2 + 1)), (1, .int t3), (0, .ref (ad 155))]) hx hb dX2_errorIndex_29 hl (k := 2) rfl rfl (by decide) rfl (fun ls hl => ?_)
        refine lv_goto (tgt := 4) hx hb dX2_errorIndex_32 (by decide) ?_
        exact ih _ _ _ (lv_sub hl [2, 1, 0] rfl) hf
      · have hf := it_t c4 hf
        refine lv_iload_n hx hb dX2_errorIndex_27 rfl (lv_at hl 2 rfl) ?_
        obtain rfl := so_i hf
        exact rd_i hx hb hr hlk dX2_errorIndex_28
def f2_errorIndex_0 (v0 : Nat → Int32) : Option (Int32) := f2_errorIndex_4 v0 fu 0 0
set_option maxRecDepth 100000 in
set_option maxHeartbeats 4000000 in
theorem w2_errorIndex_0 {p : Program} {l : Launch} {e : Env} {s : State} {m : MethodId} {args : Array Value} {below : List Frame} {meth : Method} {c : Code} {D : va_G} {Y : cYt} {ad : Nat → Nat} {μ : Nat → Nat → Int32} {v0 : Nat → Int32} (X : cX D Y p s m args meth c cX2_errorIndex 3 RX2 (some .int)) (hM : μ 12 = v0) (hP : va_P D vwCl (cwW Y ad μ) s.heap) {t : Int32}  {ls : Array Slot} (hl : lv_has ls 3 [(0, .ref (ad 155))]) (hf : f2_errorIndex_0 v0  = some t) : W p l e rm2_errorIndex s m args below meth c s.heap [] 0 0 (MQ below (QcRead t) args s 0 0 (fun _ => False)) (F0 m 0 ls []) := by
  obtain ⟨⟨hx, hb, hml, hown, hts⟩, hr, hlk, hK⟩ := id X
  replace hf : (f2_errorIndex_4 v0 fu 0 0) = some t := hf
  refine lv_iconst (v := 0) hx hb dX2_errorIndex_0 (by decide) ?_
  refine lv_istore_n (lv' := [(1, .int 0), (0, .ref (ad 155))]) hx hb dX2_errorIndex_1 rfl hl (by decide) rfl (fun ls hl => ?_)
  refine lv_iconst (v := 0) hx hb dX2_errorIndex_2 (by decide) ?_
  refine lv_istore_n (lv' := [(2, .int 0), (1, .int 0), (0, .ref (ad 155))]) hx hb dX2_errorIndex_3 rfl hl (by decide) rfl (fun ls hl => ?_)
  exact w2_errorIndex_4 X hM hP _ _ _ _ (lv_sub hl [2, 1, 0] rfl) hf
set_option maxRecDepth 100000 in
set_option maxHeartbeats 4000000 in
theorem c2_errorIndex (l : Launch) {D : va_G} {Y : cYt} {ad : Nat → Nat} {μ : Nat → Nat → Int32} {t : Int32} (hf : f2_errorIndex_0 (μ 12) = some t) : Met l yX2_errorIndex uX2_errorIndex rm2_errorIndex (va_Pc [.ref (ad 155)] (cB D Y ad μ)) (QcRead t) 0 0 (fun _ => False) := by
  refine Met.ofW (cc := cX2_errorIndex) (maxL := 3) (ret := (some .int)) (by decide) rfl ?_
  intro p e s m args below meth c s₁ B hml hv
  obtain ⟨rfl, hP, hK⟩ := hv
  have X : cX D Y p s m ([.ref (ad 155)] : List Value).toArray meth c cX2_errorIndex 3 RX2 (some .int) := ⟨⟨B.exec, B.bytes, hml, findClass_of_methodNamed B.named, fun w h => atoms_spec (ws := uX2_errorIndex) B.pre w (List.mem_cons_of_mem _ h)⟩, B.returns, B.notSynchronized, hK⟩
  have hl := lv_entry ([.ref (ad 155)]) (n := 3) (Nat.le_of_ble_eq_true rfl)
  rw [lg_entry_eq]
  generalize (lg_sl ([.ref (ad 155)]) ++ List.replicate (3 - (lg_sl ([.ref (ad 155)])).length) Slot.unset).toArray = ls at hl ⊢
  have hl : lv_has ls 3 [(0, .ref (ad 155))] := hl
  exact w2_errorIndex_0 X rfl hP (lv_sub hl [0] rfl) hf
set_option maxRecDepth 100000 in
set_option maxHeartbeats 4000000 in
theorem k2_errorIndex {p : Program} {l : Launch} {e : Env} {R : Room} {s : State} {m : MethodId} {args : Array Value} {below : List Frame} {meth : Method} {c : Code} {cc : ByteArray} {nL : Nat} {own : String} {ret : Option FieldType} {D : va_G} {Y : cYt} {ad : Nat → Nat} {μ : Nat → Nat → Int32} {H : Heap} {locs : List Loc} {cells slots : Nat} {Q : State → Prop} {pc : Nat} {ls : Array Slot} {rest : List Value} (X : cX D Y p s m args meth c cc nL own ret) {v0 : Nat → Int32} (hM : μ 12 = v0) (hP : va_P D vwCl (cwW Y ad μ) H) (hls : ls.size = nL) {index : Nat} (hG : GoodIn gw (wsV own index RX2 yX2_errorIndex uX2_errorIndex)) (hR : rm2_errorIndex.frames + 1 ≤ R.frames ∧ 8 + (3 + 11) + rm2_errorIndex.locals ≤ R.locals) {t : Int32} (hf : f2_errorIndex_0 v0 = some t) (hrest : (rest.map fun v => v.category).sum ≤ 8) (hdg : decode cc pc = .ok (.invokevirtual index, 3)) (hc : cells ≤ R.cells ∧ slots ≤ R.slots) (kk : W p l e R s m args below meth c H locs cells slots Q (F0 m (pc + 3) ls (.int t :: rest))) : W p l e R s m args below meth c H locs cells slots Q (F0 m pc ls (.ref (ad 155) :: rest)) := by
  subst hM
  exact W.callR (W.runV (As := []) X.1 (c2_errorIndex l hf) (cwV 0 X.1.2.2.2.2 hG rfl rfl rfl (by decide +kernel) hR) ⟨cB_bl, va_recv X.2.2.2 hP (ci := 2) (q0 := 155) rfl (cw_ate (by omega) (rfl)), fun U hU hW => ⟨rfl, by rw [hU]; exact hP, va_K.moved hW.alike X.2.2.2⟩⟩ rfl rfl hls rfl (lv_room hrest) hdg hc) kk
/-! OreRailway$OrderText.isComplete()Z -/
def rm2_isComplete : Room := { frames := 3, cells := 0, slots := 0, locals := 65 }
def f2_isComplete_55 (v0 : Nat → Int32) (y0 : Int32) : Option (Int32) := gz y0 (some y0)
set_option maxRecDepth 100000 in
set_option maxHeartbeats 4000000 in
theorem w2_isComplete_55 {p : Program} {l : Launch} {e : Env} {s : State} {m : MethodId} {args : Array Value} {below : List Frame} {meth : Method} {c : Code} {D : va_G} {Y : cYt} {ad : Nat → Nat} {μ : Nat → Nat → Int32} {v0 : Nat → Int32} (X : cX D Y p s m args meth c cX2_isComplete 3 RX2 (some .boolean)) (hM : μ 12 = v0) (hP : va_P D vwCl (cwW Y ad μ) s.heap) {y0 : Int32} {t : Int32}  {ls : Array Slot} (hl : lv_has ls 3 []) (hf : f2_isComplete_55 v0 y0 = some t) : W p l e rm2_isComplete s m args below meth c s.heap [] 0 0 (MQ below (QcRead t) args s 0 0 (fun _ => False)) (F0 m 55 ls [.int y0]) := by
  obtain ⟨⟨hx, hb, hml, hown, hts⟩, hr, hlk, hK⟩ := id X
  replace hf : (gz y0 (some y0)) = some t := hf
  obtain ⟨hz, hf⟩ := gz_o hf
  obtain rfl := so_i hf
  exact rd_z hx hb hr hlk (nz_z hz) dX2_isComplete_55
def f2_isComplete_50 (v0 : Nat → Int32) : Option (Int32) := f2_isComplete_55 v0 1
set_option maxRecDepth 100000 in
set_option maxHeartbeats 4000000 in
theorem w2_isComplete_50 {p : Program} {l : Launch} {e : Env} {s : State} {m : MethodId} {args : Array Value} {below : List Frame} {meth : Method} {c : Code} {D : va_G} {Y : cYt} {ad : Nat → Nat} {μ : Nat → Nat → Int32} {v0 : Nat → Int32} (X : cX D Y p s m args meth c cX2_isComplete 3 RX2 (some .boolean)) (hM : μ 12 = v0) (hP : va_P D vwCl (cwW Y ad μ) s.heap) {t : Int32}  {ls : Array Slot} (hl : lv_has ls 3 []) (hf : f2_isComplete_50 v0  = some t) : W p l e rm2_isComplete s m args below meth c s.heap [] 0 0 (MQ below (QcRead t) args s 0 0 (fun _ => False)) (F0 m 50 ls []) := by
  obtain ⟨⟨hx, hb, hml, hown, hts⟩, hr, hlk, hK⟩ := id X
  replace hf : (f2_isComplete_55 v0 1) = some t := hf
  refine lv_iconst (v := 1) hx hb dX2_isComplete_50 (by decide) ?_
  refine lv_goto (tgt := 55) hx hb dX2_isComplete_51 (by decide) ?_
  exact w2_isComplete_55 X hM hP  (lv_sub hl [] rfl) hf
def f2_isComplete_33 (v0 : Nat → Int32) (x1 : Int32) : Option (Int32) := if x1 = 1 then (f2_isComplete_50 v0) else (if x1 = 10 then (f2_isComplete_50 v0) else (if x1 = 11 then (f2_isComplete_50 v0) else (f2_isComplete_55 v0 0)))
set_option maxRecDepth 100000 in
set_option maxHeartbeats 4000000 in
theorem w2_isComplete_33 {p : Program} {l : Launch} {e : Env} {s : State} {m : MethodId} {args : Array Value} {below : List Frame} {meth : Method} {c : Code} {D : va_G} {Y : cYt} {ad : Nat → Nat} {μ : Nat → Nat → Int32} {v0 : Nat → Int32} (X : cX D Y p s m args meth c cX2_isComplete 3 RX2 (some .boolean)) (hM : μ 12 = v0) (hP : va_P D vwCl (cwW Y ad μ) s.heap) {x1 : Int32} {t : Int32}  {ls : Array Slot} (hl : lv_has ls 3 [(1, .int x1)]) (hf : f2_isComplete_33 v0 x1 = some t) : W p l e rm2_isComplete s m args below meth c s.heap [] 0 0 (MQ below (QcRead t) args s 0 0 (fun _ => False)) (F0 m 33 ls []) := by
  obtain ⟨⟨hx, hb, hml, hown, hts⟩, hr, hlk, hK⟩ := id X
  replace hf : (if x1 = 1 then (f2_isComplete_50 v0) else (if x1 = 10 then (f2_isComplete_50 v0) else (if x1 = 11 then (f2_isComplete_50 v0) else (f2_isComplete_55 v0 0)))) = some t := hf
  refine lv_iload_n hx hb dX2_isComplete_33 rfl (lv_at hl 0 rfl) ?_
  refine lv_iconst (v := 1) hx hb dX2_isComplete_34 (by decide) ?_
  refine lv_icmp_eq (tgt := 50) hx hb dX2_isComplete_35 (by decide) (fun c1 => ?_) (fun c1 => ?_)
  · have hf := it_t c1 hf
    exact w2_isComplete_50 X hM hP  (lv_sub hl [] rfl) hf
  · have hf := it_f c1 hf
    refine lv_iload_n hx hb dX2_isComplete_38 rfl (lv_at hl 0 rfl) ?_
    refine lv_bipush (v := 10) hx hb dX2_isComplete_39 (by decide) ?_
    refine lv_icmp_eq (tgt := 50) hx hb dX2_isComplete_41 (by decide) (fun c2 => ?_) (fun c2 => ?_)
    · have hf := it_t c2 hf
      exact w2_isComplete_50 X hM hP  (lv_sub hl [] rfl) hf
    · have hf := it_f c2 hf
      refine lv_iload_n hx hb dX2_isComplete_44 rfl (lv_at hl 0 rfl) ?_
      refine lv_bipush (v := 11) hx hb dX2_isComplete_45 (by decide) ?_
      refine lv_icmp_ne (tgt := 54) hx hb dX2_isComplete_47 (by decide) (fun c3 => ?_) (fun c3 => ?_)
      · have hf := it_f c3 hf
        refine lv_iconst (v := 0) hx hb dX2_isComplete_54 (by decide) ?_
        exact w2_isComplete_55 X hM hP  (lv_sub hl [] rfl) hf
      · have hf := it_t c3 hf
        exact w2_isComplete_50 X hM hP  (lv_sub hl [] rfl) hf
def f2_isComplete_4 (v0 : Nat → Int32) : Nat → Int32 → Int32 → Option (Int32)
  | 0, _, _ => none
  | n + 1, x1, x2 => if (v0 60) ≤ x2 then (f2_isComplete_33 v0 x1) else (if x1 = ((-1)) then (f2_isComplete_33 v0 x1) else (Option.bind (f2_signAt_0 v0 x2) (fun t3 => Option.bind (f2_dueAfter_0 x1 t3) (fun t4 => (f2_isComplete_4 v0 n) t4 (x2 + 1)))))
set_option maxRecDepth 100000 in
set_option maxHeartbeats 4000000 in
theorem w2_isComplete_4 {p : Program} {l : Launch} {e : Env} {s : State} {m : MethodId} {args : Array Value} {below : List Frame} {meth : Method} {c : Code} {D : va_G} {Y : cYt} {ad : Nat → Nat} {μ : Nat → Nat → Int32} {v0 : Nat → Int32} (X : cX D Y p s m args meth c cX2_isComplete 3 RX2 (some .boolean)) (hM : μ 12 = v0) (hP : va_P D vwCl (cwW Y ad μ) s.heap) {t : Int32} :
    ∀ (n : Nat) (x1 : Int32) (x2 : Int32) (ls : Array Slot), lv_has ls 3 [(0, .ref (ad 155)), (1, .int x1), (2, .int x2)] → f2_isComplete_4 v0 n x1 x2 = some t → W p l e rm2_isComplete s m args below meth c s.heap [] 0 0 (MQ below (QcRead t) args s 0 0 (fun _ => False)) (F0 m 4 ls []) := by
  obtain ⟨⟨hx, hb, hml, hown, hts⟩, hr, hlk, hK⟩ := id X
  intro n
  induction n with
  | zero =>
    intro x1 x2 ls hl hf
    cases hf
  | succ n ih =>
    intro x1 x2 ls hl hf
    replace hf : (if (v0 60) ≤ x2 then (f2_isComplete_33 v0 x1) else (if x1 = ((-1)) then (f2_isComplete_33 v0 x1) else (Option.bind (f2_signAt_0 v0 x2) (fun t3 => Option.bind (f2_dueAfter_0 x1 t3) (fun t4 => (f2_isComplete_4 v0 n) t4 (x2 + 1)))))) = some t := hf
    refine lv_iload_n hx hb dX2_isComplete_4 rfl (lv_at hl 2 rfl) ?_
    refine lv_aload_n hx hb dX2_isComplete_5 rfl (lv_at hl 0 rfl) ?_
    refine cr_gOr X hM hP (i := 1) (v := .int (v0 60)) (by decide) gfX2_15 rfl dX2_isComplete_6 ?_
    refine lv_icmp_ge (tgt := 33) hx hb dX2_isComplete_9 (by decide) (fun c1 => ?_) (fun c1 => ?_)
    · have hf := it_t c1 hf
      exact w2_isComplete_33 X hM hP  (lv_sub hl [1] rfl) hf
    · have hf := it_f c1 hf
      refine lv_iload_n hx hb dX2_isComplete_12 rfl (lv_at hl 1 rfl) ?_
      refine lv_iconst (v := (-1)) hx hb dX2_isComplete_13 (by decide) ?_
      refine lv_icmp_eq (tgt := 33) hx hb dX2_isComplete_14 (by decide) (fun c2 => ?_) (fun c2 => ?_)
      · have hf := it_t c2 hf
        exact w2_isComplete_33 X hM hP  (lv_sub hl [1] rfl) hf
      · have hf := it_f c2 hf
        refine lv_iload_n hx hb dX2_isComplete_17 rfl (lv_at hl 1 rfl) ?_
        refine lv_aload_n hx hb dX2_isComplete_18 rfl (lv_at hl 0 rfl) ?_
        refine lv_iload_n hx hb dX2_isComplete_19 rfl (lv_at hl 2 rfl) ?_
        obtain ⟨t3, ht3, hf⟩ := bd_o hf
        refine k2_signAt X hM hP hl.1 qX2_19 ⟨Nat.le_of_ble_eq_true rfl, Nat.le_of_ble_eq_true rfl⟩ ht3 (Nat.le_of_ble_eq_true rfl) dX2_isComplete_20 ⟨Nat.zero_le _, Nat.zero_le _⟩ ?_
        obtain ⟨t4, ht4, hf⟩ := bd_o hf
        refine k2_dueAfter X.1 hl.1 qX2_23 ⟨Nat.le_of_ble_eq_true rfl, Nat.le_of_ble_eq_true rfl⟩ ht4 (Nat.le_of_ble_eq_true rfl) dX2_isComplete_23 ⟨Nat.zero_le _, Nat.zero_le _⟩ ?_
        refine lv_istore_n (lv' := [(1, .int t4), (0, .ref (ad 155)), (2, .int x2)]) hx hb dX2_isComplete_26 rfl hl (by decide) rfl (fun ls hl => ?_)
        refine lv_iinc (v := x2 + 1) (lv' := [(2, .int (x2 + 1)), (1, .int t4), (0, .ref (ad 155))]) hx hb dX2_isComplete_27 hl (k := 2) rfl rfl (by decide) rfl (fun ls hl => ?_)
        refine lv_goto (tgt := 4) hx hb dX2_isComplete_30 (by decide) ?_
        exact ih _ _ _ (lv_sub hl [2, 1, 0] rfl) hf
def f2_isComplete_0 (v0 : Nat → Int32) : Option (Int32) := f2_isComplete_4 v0 fu 0 0
set_option maxRecDepth 100000 in
set_option maxHeartbeats 4000000 in
theorem w2_isComplete_0 {p : Program} {l : Launch} {e : Env} {s : State} {m : MethodId} {args : Array Value} {below : List Frame} {meth : Method} {c : Code} {D : va_G} {Y : cYt} {ad : Nat → Nat} {μ : Nat → Nat → Int32} {v0 : Nat → Int32} (X : cX D Y p s m args meth c cX2_isComplete 3 RX2 (some .boolean)) (hM : μ 12 = v0) (hP : va_P D vwCl (cwW Y ad μ) s.heap) {t : Int32}  {ls : Array Slot} (hl : lv_has ls 3 [(0, .ref (ad 155))]) (hf : f2_isComplete_0 v0  = some t) : W p l e rm2_isComplete s m args below meth c s.heap [] 0 0 (MQ below (QcRead t) args s 0 0 (fun _ => False)) (F0 m 0 ls []) := by
  obtain ⟨⟨hx, hb, hml, hown, hts⟩, hr, hlk, hK⟩ := id X
  replace hf : (f2_isComplete_4 v0 fu 0 0) = some t := hf
  refine lv_iconst (v := 0) hx hb dX2_isComplete_0 (by decide) ?_
  refine lv_istore_n (lv' := [(1, .int 0), (0, .ref (ad 155))]) hx hb dX2_isComplete_1 rfl hl (by decide) rfl (fun ls hl => ?_)
  refine lv_iconst (v := 0) hx hb dX2_isComplete_2 (by decide) ?_
  refine lv_istore_n (lv' := [(2, .int 0), (1, .int 0), (0, .ref (ad 155))]) hx hb dX2_isComplete_3 rfl hl (by decide) rfl (fun ls hl => ?_)
  exact w2_isComplete_4 X hM hP _ _ _ _ (lv_sub hl [2, 1, 0] rfl) hf
set_option maxRecDepth 100000 in
set_option maxHeartbeats 4000000 in
theorem c2_isComplete (l : Launch) {D : va_G} {Y : cYt} {ad : Nat → Nat} {μ : Nat → Nat → Int32} {t : Int32} (hf : f2_isComplete_0 (μ 12) = some t) : Met l yX2_isComplete uX2_isComplete rm2_isComplete (va_Pc [.ref (ad 155)] (cB D Y ad μ)) (QcRead t) 0 0 (fun _ => False) := by
  refine Met.ofW (cc := cX2_isComplete) (maxL := 3) (ret := (some .boolean)) (by decide) rfl ?_
  intro p e s m args below meth c s₁ B hml hv
  obtain ⟨rfl, hP, hK⟩ := hv
  have X : cX D Y p s m ([.ref (ad 155)] : List Value).toArray meth c cX2_isComplete 3 RX2 (some .boolean) := ⟨⟨B.exec, B.bytes, hml, findClass_of_methodNamed B.named, fun w h => atoms_spec (ws := uX2_isComplete) B.pre w (List.mem_cons_of_mem _ h)⟩, B.returns, B.notSynchronized, hK⟩
  have hl := lv_entry ([.ref (ad 155)]) (n := 3) (Nat.le_of_ble_eq_true rfl)
  rw [lg_entry_eq]
  generalize (lg_sl ([.ref (ad 155)]) ++ List.replicate (3 - (lg_sl ([.ref (ad 155)])).length) Slot.unset).toArray = ls at hl ⊢
  have hl : lv_has ls 3 [(0, .ref (ad 155))] := hl
  exact w2_isComplete_0 X rfl hP (lv_sub hl [0] rfl) hf
set_option maxRecDepth 100000 in
set_option maxHeartbeats 4000000 in
theorem k2_isComplete {p : Program} {l : Launch} {e : Env} {R : Room} {s : State} {m : MethodId} {args : Array Value} {below : List Frame} {meth : Method} {c : Code} {cc : ByteArray} {nL : Nat} {own : String} {ret : Option FieldType} {D : va_G} {Y : cYt} {ad : Nat → Nat} {μ : Nat → Nat → Int32} {H : Heap} {locs : List Loc} {cells slots : Nat} {Q : State → Prop} {pc : Nat} {ls : Array Slot} {rest : List Value} (X : cX D Y p s m args meth c cc nL own ret) {v0 : Nat → Int32} (hM : μ 12 = v0) (hP : va_P D vwCl (cwW Y ad μ) H) (hls : ls.size = nL) {index : Nat} (hG : GoodIn gw (wsV own index RX2 yX2_isComplete uX2_isComplete)) (hR : rm2_isComplete.frames + 1 ≤ R.frames ∧ 8 + (3 + 11) + rm2_isComplete.locals ≤ R.locals) {t : Int32} (hf : f2_isComplete_0 v0 = some t) (hrest : (rest.map fun v => v.category).sum ≤ 8) (hdg : decode cc pc = .ok (.invokevirtual index, 3)) (hc : cells ≤ R.cells ∧ slots ≤ R.slots) (kk : W p l e R s m args below meth c H locs cells slots Q (F0 m (pc + 3) ls (.int t :: rest))) : W p l e R s m args below meth c H locs cells slots Q (F0 m pc ls (.ref (ad 155) :: rest)) := by
  subst hM
  exact W.callR (W.runV (As := []) X.1 (c2_isComplete l hf) (cwV 0 X.1.2.2.2.2 hG rfl rfl rfl (by decide +kernel) hR) ⟨cB_bl, va_recv X.2.2.2 hP (ci := 2) (q0 := 155) rfl (cw_ate (by omega) (rfl)), fun U hU hW => ⟨rfl, by rw [hU]; exact hP, va_K.moved hW.alike X.2.2.2⟩⟩ rfl rfl hls rfl (lv_room hrest) hdg hc) kk
/-! OreRailway$OrderText.isOrderEnd(I)Z -/
def rm2_isOrderEnd : Room := { frames := 1, cells := 0, slots := 0, locals := 21 }
def f2_isOrderEnd_23 (v0 : Nat → Int32) (y0 : Int32) : Option (Int32) := gz y0 (some y0)
set_option maxRecDepth 100000 in
set_option maxHeartbeats 4000000 in
theorem w2_isOrderEnd_23 {p : Program} {l : Launch} {e : Env} {s : State} {m : MethodId} {args : Array Value} {below : List Frame} {meth : Method} {c : Code} {D : va_G} {Y : cYt} {ad : Nat → Nat} {μ : Nat → Nat → Int32} {v0 : Nat → Int32} (X : cX D Y p s m args meth c cX2_isOrderEnd 2 RX2 (some .boolean)) (hM : μ 12 = v0) (hP : va_P D vwCl (cwW Y ad μ) s.heap) {y0 : Int32} {t : Int32}  {ls : Array Slot} (hl : lv_has ls 2 []) (hf : f2_isOrderEnd_23 v0 y0 = some t) : W p l e rm2_isOrderEnd s m args below meth c s.heap [] 0 0 (MQ below (QcRead t) args s 0 0 (fun _ => False)) (F0 m 23 ls [.int y0]) := by
  obtain ⟨⟨hx, hb, hml, hown, hts⟩, hr, hlk, hK⟩ := id X
  replace hf : (gz y0 (some y0)) = some t := hf
  obtain ⟨hz, hf⟩ := gz_o hf
  obtain rfl := so_i hf
  exact rd_z hx hb hr hlk (nz_z hz) dX2_isOrderEnd_23
def f2_isOrderEnd_18 (v0 : Nat → Int32) : Option (Int32) := f2_isOrderEnd_23 v0 1
set_option maxRecDepth 100000 in
set_option maxHeartbeats 4000000 in
theorem w2_isOrderEnd_18 {p : Program} {l : Launch} {e : Env} {s : State} {m : MethodId} {args : Array Value} {below : List Frame} {meth : Method} {c : Code} {D : va_G} {Y : cYt} {ad : Nat → Nat} {μ : Nat → Nat → Int32} {v0 : Nat → Int32} (X : cX D Y p s m args meth c cX2_isOrderEnd 2 RX2 (some .boolean)) (hM : μ 12 = v0) (hP : va_P D vwCl (cwW Y ad μ) s.heap) {t : Int32}  {ls : Array Slot} (hl : lv_has ls 2 []) (hf : f2_isOrderEnd_18 v0  = some t) : W p l e rm2_isOrderEnd s m args below meth c s.heap [] 0 0 (MQ below (QcRead t) args s 0 0 (fun _ => False)) (F0 m 18 ls []) := by
  obtain ⟨⟨hx, hb, hml, hown, hts⟩, hr, hlk, hK⟩ := id X
  replace hf : (f2_isOrderEnd_23 v0 1) = some t := hf
  refine lv_iconst (v := 1) hx hb dX2_isOrderEnd_18 (by decide) ?_
  refine lv_goto (tgt := 23) hx hb dX2_isOrderEnd_19 (by decide) ?_
  exact w2_isOrderEnd_23 X hM hP  (lv_sub hl [] rfl) hf
def f2_isOrderEnd_0 (v0 : Nat → Int32) (x1 : Int32) : Option (Int32) := if x1 = (v0 60) then (f2_isOrderEnd_18 v0) else (Option.bind (f2_signAt_0 v0 x1) (fun t2 => if t2 = 59 then (f2_isOrderEnd_18 v0) else (f2_isOrderEnd_23 v0 0)))
set_option maxRecDepth 100000 in
set_option maxHeartbeats 4000000 in
theorem w2_isOrderEnd_0 {p : Program} {l : Launch} {e : Env} {s : State} {m : MethodId} {args : Array Value} {below : List Frame} {meth : Method} {c : Code} {D : va_G} {Y : cYt} {ad : Nat → Nat} {μ : Nat → Nat → Int32} {v0 : Nat → Int32} (X : cX D Y p s m args meth c cX2_isOrderEnd 2 RX2 (some .boolean)) (hM : μ 12 = v0) (hP : va_P D vwCl (cwW Y ad μ) s.heap) {x1 : Int32} {t : Int32}  {ls : Array Slot} (hl : lv_has ls 2 [(0, .ref (ad 155)), (1, .int x1)]) (hf : f2_isOrderEnd_0 v0 x1 = some t) : W p l e rm2_isOrderEnd s m args below meth c s.heap [] 0 0 (MQ below (QcRead t) args s 0 0 (fun _ => False)) (F0 m 0 ls []) := by
  obtain ⟨⟨hx, hb, hml, hown, hts⟩, hr, hlk, hK⟩ := id X
  replace hf : (if x1 = (v0 60) then (f2_isOrderEnd_18 v0) else (Option.bind (f2_signAt_0 v0 x1) (fun t2 => if t2 = 59 then (f2_isOrderEnd_18 v0) else (f2_isOrderEnd_23 v0 0)))) = some t := hf
  refine lv_iload_n hx hb dX2_isOrderEnd_0 rfl (lv_at hl 1 rfl) ?_
  refine lv_aload_n hx hb dX2_isOrderEnd_1 rfl (lv_at hl 0 rfl) ?_
  refine cr_gOr X hM hP (i := 1) (v := .int (v0 60)) (by decide) gfX2_15 rfl dX2_isOrderEnd_2 ?_
  refine lv_icmp_eq (tgt := 18) hx hb dX2_isOrderEnd_5 (by decide) (fun c1 => ?_) (fun c1 => ?_)
  · have hf := it_t c1 hf
    exact w2_isOrderEnd_18 X hM hP  (lv_sub hl [] rfl) hf
  · have hf := it_f c1 hf
    refine lv_aload_n hx hb dX2_isOrderEnd_8 rfl (lv_at hl 0 rfl) ?_
    refine lv_iload_n hx hb dX2_isOrderEnd_9 rfl (lv_at hl 1 rfl) ?_
    obtain ⟨t2, ht2, hf⟩ := bd_o hf
    refine k2_signAt X hM hP hl.1 qX2_19 ⟨Nat.le_of_ble_eq_true rfl, Nat.le_of_ble_eq_true rfl⟩ ht2 (Nat.le_of_ble_eq_true rfl) dX2_isOrderEnd_10 ⟨Nat.zero_le _, Nat.zero_le _⟩ ?_
    refine lv_bipush (v := 59) hx hb dX2_isOrderEnd_13 (by decide) ?_
    refine lv_icmp_ne (tgt := 22) hx hb dX2_isOrderEnd_15 (by decide) (fun c3 => ?_) (fun c3 => ?_)
    · have hf := it_f c3 hf
      refine lv_iconst (v := 0) hx hb dX2_isOrderEnd_22 (by decide) ?_
      exact w2_isOrderEnd_23 X hM hP  (lv_sub hl [] rfl) hf
    · have hf := it_t c3 hf
      exact w2_isOrderEnd_18 X hM hP  (lv_sub hl [] rfl) hf
set_option maxRecDepth 100000 in
set_option maxHeartbeats 4000000 in
theorem c2_isOrderEnd (l : Launch) {D : va_G} {Y : cYt} {ad : Nat → Nat} {μ : Nat → Nat → Int32} (x1 : Int32) {t : Int32} (hf : f2_isOrderEnd_0 (μ 12) x1 = some t) : Met l yX2_isOrderEnd uX2_isOrderEnd rm2_isOrderEnd (va_Pc [.ref (ad 155), .int x1] (cB D Y ad μ)) (QcRead t) 0 0 (fun _ => False) := by
  refine Met.ofW (cc := cX2_isOrderEnd) (maxL := 2) (ret := (some .boolean)) (by decide) rfl ?_
  intro p e s m args below meth c s₁ B hml hv
  obtain ⟨rfl, hP, hK⟩ := hv
  have X : cX D Y p s m ([.ref (ad 155), .int x1] : List Value).toArray meth c cX2_isOrderEnd 2 RX2 (some .boolean) := ⟨⟨B.exec, B.bytes, hml, findClass_of_methodNamed B.named, fun w h => atoms_spec (ws := uX2_isOrderEnd) B.pre w (List.mem_cons_of_mem _ h)⟩, B.returns, B.notSynchronized, hK⟩
  have hl := lv_entry ([.ref (ad 155), .int x1]) (n := 2) (Nat.le_of_ble_eq_true rfl)
  rw [lg_entry_eq]
  generalize (lg_sl ([.ref (ad 155), .int x1]) ++ List.replicate (2 - (lg_sl ([.ref (ad 155), .int x1])).length) Slot.unset).toArray = ls at hl ⊢
  have hl : lv_has ls 2 [(0, .ref (ad 155)), (1, .int x1)] := hl
  exact w2_isOrderEnd_0 X rfl hP (lv_sub hl [0, 1] rfl) hf
set_option maxRecDepth 100000 in
set_option maxHeartbeats 4000000 in
theorem k2_isOrderEnd {p : Program} {l : Launch} {e : Env} {R : Room} {s : State} {m : MethodId} {args : Array Value} {below : List Frame} {meth : Method} {c : Code} {cc : ByteArray} {nL : Nat} {own : String} {ret : Option FieldType} {D : va_G} {Y : cYt} {ad : Nat → Nat} {μ : Nat → Nat → Int32} {H : Heap} {locs : List Loc} {cells slots : Nat} {Q : State → Prop} {pc : Nat} {ls : Array Slot} {rest : List Value} (X : cX D Y p s m args meth c cc nL own ret) {v0 : Nat → Int32} (hM : μ 12 = v0) (hP : va_P D vwCl (cwW Y ad μ) H) (hls : ls.size = nL) {index : Nat} (hG : GoodIn gw (wsV own index RX2 yX2_isOrderEnd uX2_isOrderEnd)) (hR : rm2_isOrderEnd.frames + 1 ≤ R.frames ∧ 8 + (2 + 11) + rm2_isOrderEnd.locals ≤ R.locals) {x1 : Int32} {t : Int32} (hf : f2_isOrderEnd_0 v0 x1 = some t) (hrest : (rest.map fun v => v.category).sum ≤ 8) (hdg : decode cc pc = .ok (.invokevirtual index, 3)) (hc : cells ≤ R.cells ∧ slots ≤ R.slots) (kk : W p l e R s m args below meth c H locs cells slots Q (F0 m (pc + 3) ls (.int t :: rest))) : W p l e R s m args below meth c H locs cells slots Q (F0 m pc ls (.int x1 :: .ref (ad 155) :: rest)) := by
  subst hM
  exact W.callR (W.runV (As := [.int x1]) X.1 (c2_isOrderEnd l x1 hf) (cwV 1 X.1.2.2.2.2 hG rfl rfl rfl (by decide +kernel) hR) ⟨cB_bl, va_recv X.2.2.2 hP (ci := 2) (q0 := 155) rfl (cw_ate (by omega) (rfl)), fun U hU hW => ⟨rfl, by rw [hU]; exact hP, va_K.moved hW.alike X.2.2.2⟩⟩ rfl rfl hls rfl (lv_room hrest) hdg hc) kk
/-! OreRailway$OrderText.numberAt(II)I -/
def rm2_numberAt : Room := { frames := 1, cells := 0, slots := 0, locals := 21 }
def f2_numberAt_5 (v0 : Nat → Int32) : Nat → Int32 → Int32 → Int32 → Option (Int32)
  | 0, _, _, _ => none
  | n + 1, x2, x3, x4 => if x2 ≤ x4 then (some x3) else (Option.bind (f2_signAt_0 v0 x4) (fun t2 => (f2_numberAt_5 v0 n) x2 (((x3 * 10) + t2) - 48) (x4 + 1)))
set_option maxRecDepth 100000 in
set_option maxHeartbeats 4000000 in
theorem w2_numberAt_5 {p : Program} {l : Launch} {e : Env} {s : State} {m : MethodId} {args : Array Value} {below : List Frame} {meth : Method} {c : Code} {D : va_G} {Y : cYt} {ad : Nat → Nat} {μ : Nat → Nat → Int32} {v0 : Nat → Int32} (X : cX D Y p s m args meth c cX2_numberAt 5 RX2 (some .int)) (hM : μ 12 = v0) (hP : va_P D vwCl (cwW Y ad μ) s.heap) {t : Int32} :
    ∀ (n : Nat) (x2 : Int32) (x3 : Int32) (x4 : Int32) (ls : Array Slot), lv_has ls 5 [(0, .ref (ad 155)), (2, .int x2), (3, .int x3), (4, .int x4)] → f2_numberAt_5 v0 n x2 x3 x4 = some t → W p l e rm2_numberAt s m args below meth c s.heap [] 0 0 (MQ below (QcRead t) args s 0 0 (fun _ => False)) (F0 m 5 ls []) := by
  obtain ⟨⟨hx, hb, hml, hown, hts⟩, hr, hlk, hK⟩ := id X
  intro n
  induction n with
  | zero =>
    intro x2 x3 x4 ls hl hf
    cases hf
  | succ n ih =>
    intro x2 x3 x4 ls hl hf
    replace hf : (if x2 ≤ x4 then (some x3) else (Option.bind (f2_signAt_0 v0 x4) (fun t2 => (f2_numberAt_5 v0 n) x2 (((x3 * 10) + t2) - 48) (x4 + 1)))) = some t := hf
    refine lv_iload hx hb dX2_numberAt_5 (lv_at hl 3 rfl) ?_
    refine lv_iload_n hx hb dX2_numberAt_7 rfl (lv_at hl 1 rfl) ?_
    refine lv_icmp_ge (tgt := 32) hx hb dX2_numberAt_8 (by decide) (fun c1 => ?_) (fun c1 => ?_)
    · have hf := it_t c1 hf
      refine lv_iload_n hx hb dX2_numberAt_32 rfl (lv_at hl 2 rfl) ?_
      obtain rfl := so_i hf
      exact rd_i hx hb hr hlk dX2_numberAt_33
    · have hf := it_f c1 hf
      refine lv_iload_n hx hb dX2_numberAt_11 rfl (lv_at hl 2 rfl) ?_
      refine lv_bipush (v := 10) hx hb dX2_numberAt_12 (by decide) ?_
      refine lv_imul hx hb dX2_numberAt_14 ?_
      refine lv_aload_n hx hb dX2_numberAt_15 rfl (lv_at hl 0 rfl) ?_
      refine lv_iload hx hb dX2_numberAt_16 (lv_at hl 3 rfl) ?_
      obtain ⟨t2, ht2, hf⟩ := bd_o hf
      refine k2_signAt X hM hP hl.1 qX2_19 ⟨Nat.le_of_ble_eq_true rfl, Nat.le_of_ble_eq_true rfl⟩ ht2 (Nat.le_of_ble_eq_true rfl) dX2_numberAt_18 ⟨Nat.zero_le _, Nat.zero_le _⟩ ?_
      refine lv_iadd hx hb dX2_numberAt_21 ?_
      refine lv_bipush (v := 48) hx hb dX2_numberAt_22 (by decide) ?_
      refine lv_isub hx hb dX2_numberAt_24 ?_
      refine lv_istore_n (lv' := [(3, .int (((x3 * 10) + t2) - 48)), (0, .ref (ad 155)), (2, .int x2), (4, .int x4)]) hx hb dX2_numberAt_25 rfl hl (by decide) rfl (fun ls hl => ?_)
      refine lv_iinc (v := x4 + 1) (lv' := [(4, .int (x4 + 1)), (3, .int (((x3 * 10) + t2) - 48)), (0, .ref (ad 155)), (2, .int x2)]) hx hb dX2_numberAt_26 hl (k := 3) rfl rfl (by decide) rfl (fun ls hl => ?_)
      refine lv_goto (tgt := 5) hx hb dX2_numberAt_29 (by decide) ?_
      exact ih _ _ _ _ (lv_sub hl [2, 3, 1, 0] rfl) hf
def f2_numberAt_0 (v0 : Nat → Int32) (x1 : Int32) (x2 : Int32) : Option (Int32) := f2_numberAt_5 v0 fu x2 0 x1
set_option maxRecDepth 100000 in
set_option maxHeartbeats 4000000 in
theorem w2_numberAt_0 {p : Program} {l : Launch} {e : Env} {s : State} {m : MethodId} {args : Array Value} {below : List Frame} {meth : Method} {c : Code} {D : va_G} {Y : cYt} {ad : Nat → Nat} {μ : Nat → Nat → Int32} {v0 : Nat → Int32} (X : cX D Y p s m args meth c cX2_numberAt 5 RX2 (some .int)) (hM : μ 12 = v0) (hP : va_P D vwCl (cwW Y ad μ) s.heap) {x1 : Int32} {x2 : Int32} {t : Int32}  {ls : Array Slot} (hl : lv_has ls 5 [(0, .ref (ad 155)), (1, .int x1), (2, .int x2)]) (hf : f2_numberAt_0 v0 x1 x2 = some t) : W p l e rm2_numberAt s m args below meth c s.heap [] 0 0 (MQ below (QcRead t) args s 0 0 (fun _ => False)) (F0 m 0 ls []) := by
  obtain ⟨⟨hx, hb, hml, hown, hts⟩, hr, hlk, hK⟩ := id X
  replace hf : (f2_numberAt_5 v0 fu x2 0 x1) = some t := hf
  refine lv_iconst (v := 0) hx hb dX2_numberAt_0 (by decide) ?_
  refine lv_istore_n (lv' := [(3, .int 0), (0, .ref (ad 155)), (1, .int x1), (2, .int x2)]) hx hb dX2_numberAt_1 rfl hl (by decide) rfl (fun ls hl => ?_)
  refine lv_iload_n hx hb dX2_numberAt_2 rfl (lv_at hl 2 rfl) ?_
  refine lv_istore (lv' := [(4, .int x1), (3, .int 0), (0, .ref (ad 155)), (1, .int x1), (2, .int x2)]) hx hb dX2_numberAt_3 hl (by decide) rfl (fun ls hl => ?_)
  exact w2_numberAt_5 X hM hP _ _ _ _ _ (lv_sub hl [2, 4, 1, 0] rfl) hf
set_option maxRecDepth 100000 in
set_option maxHeartbeats 4000000 in
theorem c2_numberAt (l : Launch) {D : va_G} {Y : cYt} {ad : Nat → Nat} {μ : Nat → Nat → Int32} (x1 : Int32) (x2 : Int32) {t : Int32} (hf : f2_numberAt_0 (μ 12) x1 x2 = some t) : Met l yX2_numberAt uX2_numberAt rm2_numberAt (va_Pc [.ref (ad 155), .int x1, .int x2] (cB D Y ad μ)) (QcRead t) 0 0 (fun _ => False) := by
  refine Met.ofW (cc := cX2_numberAt) (maxL := 5) (ret := (some .int)) (by decide) rfl ?_
  intro p e s m args below meth c s₁ B hml hv
  obtain ⟨rfl, hP, hK⟩ := hv
  have X : cX D Y p s m ([.ref (ad 155), .int x1, .int x2] : List Value).toArray meth c cX2_numberAt 5 RX2 (some .int) := ⟨⟨B.exec, B.bytes, hml, findClass_of_methodNamed B.named, fun w h => atoms_spec (ws := uX2_numberAt) B.pre w (List.mem_cons_of_mem _ h)⟩, B.returns, B.notSynchronized, hK⟩
  have hl := lv_entry ([.ref (ad 155), .int x1, .int x2]) (n := 5) (Nat.le_of_ble_eq_true rfl)
  rw [lg_entry_eq]
  generalize (lg_sl ([.ref (ad 155), .int x1, .int x2]) ++ List.replicate (5 - (lg_sl ([.ref (ad 155), .int x1, .int x2])).length) Slot.unset).toArray = ls at hl ⊢
  have hl : lv_has ls 5 [(0, .ref (ad 155)), (1, .int x1), (2, .int x2)] := hl
  exact w2_numberAt_0 X rfl hP (lv_sub hl [0, 1, 2] rfl) hf
set_option maxRecDepth 100000 in
set_option maxHeartbeats 4000000 in
theorem k2_numberAt {p : Program} {l : Launch} {e : Env} {R : Room} {s : State} {m : MethodId} {args : Array Value} {below : List Frame} {meth : Method} {c : Code} {cc : ByteArray} {nL : Nat} {own : String} {ret : Option FieldType} {D : va_G} {Y : cYt} {ad : Nat → Nat} {μ : Nat → Nat → Int32} {H : Heap} {locs : List Loc} {cells slots : Nat} {Q : State → Prop} {pc : Nat} {ls : Array Slot} {rest : List Value} (X : cX D Y p s m args meth c cc nL own ret) {v0 : Nat → Int32} (hM : μ 12 = v0) (hP : va_P D vwCl (cwW Y ad μ) H) (hls : ls.size = nL) {index : Nat} (hG : GoodIn gw (wsV own index RX2 yX2_numberAt uX2_numberAt)) (hR : rm2_numberAt.frames + 1 ≤ R.frames ∧ 8 + (5 + 11) + rm2_numberAt.locals ≤ R.locals) {x1 : Int32} {x2 : Int32} {t : Int32} (hf : f2_numberAt_0 v0 x1 x2 = some t) (hrest : (rest.map fun v => v.category).sum ≤ 8) (hdg : decode cc pc = .ok (.invokevirtual index, 3)) (hc : cells ≤ R.cells ∧ slots ≤ R.slots) (kk : W p l e R s m args below meth c H locs cells slots Q (F0 m (pc + 3) ls (.int t :: rest))) : W p l e R s m args below meth c H locs cells slots Q (F0 m pc ls (.int x2 :: .int x1 :: .ref (ad 155) :: rest)) := by
  subst hM
  exact W.callR (W.runV (As := [.int x1, .int x2]) X.1 (c2_numberAt l x1 x2 hf) (cwV 2 X.1.2.2.2.2 hG rfl rfl rfl (by decide +kernel) hR) ⟨cB_bl, va_recv X.2.2.2 hP (ci := 2) (q0 := 155) rfl (cw_ate (by omega) (rfl)), fun U hU hW => ⟨rfl, by rw [hU]; exact hP, va_K.moved hW.alike X.2.2.2⟩⟩ rfl rfl hls rfl (lv_room hrest) hdg hc) kk
