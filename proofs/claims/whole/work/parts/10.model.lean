/-! OreRailwayModel.thrown()I -/
def rm5_thrown : Room := { frames := 0, cells := 0, slots := 0, locals := 0 }
def f5_thrown_0 (v0 : Nat → Int32) : Option (Int32) := some (v0 8)
set_option maxRecDepth 100000 in
set_option maxHeartbeats 4000000 in
theorem w5_thrown_0 {p : Program} {l : Launch} {e : Env} {s : State} {m : MethodId} {args : Array Value} {below : List Frame} {meth : Method} {c : Code} {D : va_G} {cI cZ : ClassId} {ad : Nat → Nat} {v0 v1 v2 v3 v4 v5 v6 v7 v8 : Nat → Int32} (X : mX D cI cZ p s m args meth c cX5_thrown 1 (some .int)) (hP : va_P D vwCl (mwW cI cZ ad v0 v1 v2 v3 v4 v5 v6 v7 v8) s.heap) {t : Int32}  {ls : Array Slot} (hl : lv_has ls 1 [(0, .ref (ad 0))]) (hf : f5_thrown_0 v0  = some t) : W p l e rm5_thrown s m args below meth c s.heap [] 0 0 (MQ below (QcRead t) args s 0 0 (fun _ => False)) (F0 m 0 ls []) := by
  obtain ⟨⟨hx, hb, hml, hown, hts⟩, hr, hlk, hK⟩ := id X
  replace hf : (some (v0 8)) = some t := hf
  refine lv_aload_n hx hb dX5_thrown_0 rfl (lv_at hl 0 rfl) ?_
  refine mr_get X hP (k := 8) (v := .int (v0 8)) (by decide) gfX5_35 rfl dX5_thrown_1 ?_
  obtain rfl := so_i hf
  exact rd_i hx hb hr hlk dX5_thrown_4
set_option maxRecDepth 100000 in
set_option maxHeartbeats 4000000 in
theorem c5_thrown (l : Launch) {D : va_G} {cI cZ : ClassId} {ad : Nat → Nat} {v0 v1 v2 v3 v4 v5 v6 v7 v8 : Nat → Int32} {t : Int32} (hf : f5_thrown_0 v0 = some t) : Met l yX5_thrown uX5_thrown rm5_thrown (va_Pc [.ref (ad 0)] (mB D cI cZ ad v0 v1 v2 v3 v4 v5 v6 v7 v8)) (QcRead t) 0 0 (fun _ => False) := by
  refine Met.ofW (cc := cX5_thrown) (maxL := 1) (ret := (some .int)) (by decide) rfl ?_
  intro p e s m args below meth c s₁ B hml hv
  obtain ⟨rfl, hP, hK⟩ := hv
  have X : mX D cI cZ p s m ([.ref (ad 0)] : List Value).toArray meth c cX5_thrown 1 (some .int) := ⟨⟨B.exec, B.bytes, hml, findClass_of_methodNamed B.named, fun w h => atoms_spec (ws := uX5_thrown) B.pre w (List.mem_cons_of_mem _ h)⟩, B.returns, B.notSynchronized, hK⟩
  have hl := lv_entry ([.ref (ad 0)]) (n := 1) (Nat.le_of_ble_eq_true rfl)
  rw [lg_entry_eq]
  generalize (lg_sl ([.ref (ad 0)]) ++ List.replicate (1 - (lg_sl ([.ref (ad 0)])).length) Slot.unset).toArray = ls at hl ⊢
  have hl : lv_has ls 1 [(0, .ref (ad 0))] := hl
  exact w5_thrown_0 X hP (lv_sub hl [0] rfl) hf
set_option maxRecDepth 100000 in
set_option maxHeartbeats 4000000 in
theorem k5_thrown {p : Program} {l : Launch} {e : Env} {R : Room} {s : State} {m : MethodId} {args : Array Value} {below : List Frame} {meth : Method} {c : Code} {cc : ByteArray} {nL : Nat} {ret : Option FieldType} {D : va_G} {cI cZ : ClassId} {ad : Nat → Nat} {v0 v1 v2 v3 v4 v5 v6 v7 v8 : Nat → Int32} {H : Heap} {locs : List Loc} {cells slots : Nat} {Q : State → Prop} {pc : Nat} {ls : Array Slot} {rest : List Value} (X : mX D cI cZ p s m args meth c cc nL ret) (hP : va_P D vwCl (mwW cI cZ ad v0 v1 v2 v3 v4 v5 v6 v7 v8) H) (hls : ls.size = nL) {index : Nat} (hG : GoodIn gw (wsV RX5 index RX5 yX5_thrown uX5_thrown)) (hR : rm5_thrown.frames + 1 ≤ R.frames ∧ 8 + (1 + 11) + rm5_thrown.locals ≤ R.locals) {t : Int32} (hf : f5_thrown_0 v0 = some t) (hrest : (rest.map fun v => v.category).sum ≤ 8) (hdg : decode cc pc = .ok (.invokevirtual index, 3)) (hc : cells ≤ R.cells ∧ slots ≤ R.slots) (kk : W p l e R s m args below meth c H locs cells slots Q (F0 m (pc + 3) ls (.int t :: rest))) : W p l e R s m args below meth c H locs cells slots Q (F0 m pc ls (.ref (ad 0) :: rest)) :=
  W.callR (W.runV (As := []) X.1 (c5_thrown l hf) (cwV 0 X.1.2.2.2.2 hG rfl rfl rfl (by decide +kernel) hR) ⟨mB_bl, va_recv X.2.2.2 hP (ci := 5) (q0 := 0) rfl rfl, fun U hU hW => ⟨rfl, by rw [hU]; exact hP, va_K.moved hW.alike X.2.2.2⟩⟩ rfl rfl hls rfl (lv_room hrest) hdg hc) kk
/-! OreRailwayModel.refused(I)Z -/
def rm5_refused : Room := { frames := 0, cells := 0, slots := 0, locals := 0 }
def f5_refused_14 (y0 : Int32) (v0 : Nat → Int32) : Option (Int32 × (Nat → Int32)) := gz y0 (some (y0, v0))
set_option maxRecDepth 100000 in
set_option maxHeartbeats 4000000 in
theorem w5_refused_14 {p : Program} {l : Launch} {e : Env} {s : State} {m : MethodId} {args : Array Value} {below : List Frame} {meth : Method} {c : Code} {D : va_G} {cI cZ : ClassId} {ad : Nat → Nat} {v0 v1 v2 v3 v4 v5 v6 v7 v8 : Nat → Int32} (X : mX D cI cZ p s m args meth c cX5_refused 2 (some .boolean)) (hI : mInj ad) {y0 : Int32} {t : Int32 × (Nat → Int32)}  {H : Heap} {locs : List Loc} (hH : mH D cI cZ ad v0 v1 v2 v3 v4 v5 v6 v7 v8 s H locs) {ls : Array Slot} (hl : lv_has ls 2 []) (hf : f5_refused_14 y0 v0 = some t) : W p l e rm5_refused s m args below meth c H locs 0 0 (MQ below (va_Qi (fun (r9 : Int32) (_ : Unit) => r9 = t.1) (fun _ t9 => mB D cI cZ ad t.2 v1 v2 v3 v4 v5 v6 v7 v8 t9) (mA ad s.heap.size)) args s 0 0 (mA ad s.heap.size)) (F0 m 14 ls [.int y0]) := by
  obtain ⟨⟨hx, hb, hml, hown, hts⟩, hr, hlk, hK⟩ := id X
  replace hf : (gz y0 (some (y0, v0))) = some t := hf
  obtain ⟨hz, hf⟩ := gz_o hf
  obtain rfl := so_i hf
  exact mr_zw X hH rfl (nz_z hz) dX5_refused_14
def f5_refused_0 (x1 : Int32) (v0 : Nat → Int32) : Option (Int32 × (Nat → Int32)) := if x1 ≤ 0 then (f5_refused_14 0 (upd v0 8 x1)) else (f5_refused_14 1 (upd v0 8 x1))
set_option maxRecDepth 100000 in
set_option maxHeartbeats 4000000 in
theorem w5_refused_0 {p : Program} {l : Launch} {e : Env} {s : State} {m : MethodId} {args : Array Value} {below : List Frame} {meth : Method} {c : Code} {D : va_G} {cI cZ : ClassId} {ad : Nat → Nat} {v0 v1 v2 v3 v4 v5 v6 v7 v8 : Nat → Int32} (X : mX D cI cZ p s m args meth c cX5_refused 2 (some .boolean)) (hI : mInj ad) {x1 : Int32} {t : Int32 × (Nat → Int32)}  {H : Heap} {locs : List Loc} (hH : mH D cI cZ ad v0 v1 v2 v3 v4 v5 v6 v7 v8 s H locs) {ls : Array Slot} (hl : lv_has ls 2 [(0, .ref (ad 0)), (1, .int x1)]) (hf : f5_refused_0 x1 v0 = some t) : W p l e rm5_refused s m args below meth c H locs 0 0 (MQ below (va_Qi (fun (r9 : Int32) (_ : Unit) => r9 = t.1) (fun _ t9 => mB D cI cZ ad t.2 v1 v2 v3 v4 v5 v6 v7 v8 t9) (mA ad s.heap.size)) args s 0 0 (mA ad s.heap.size)) (F0 m 0 ls []) := by
  obtain ⟨⟨hx, hb, hml, hown, hts⟩, hr, hlk, hK⟩ := id X
  replace hf : (if x1 ≤ 0 then (f5_refused_14 0 (upd v0 8 x1)) else (f5_refused_14 1 (upd v0 8 x1))) = some t := hf
  refine lv_aload_n hx hb dX5_refused_0 rfl (lv_at hl 0 rfl) ?_
  refine lv_iload_n hx hb dX5_refused_1 rfl (lv_at hl 1 rfl) ?_
  refine mr_put X hI hH 8 (by decide) gfX5_35 rfl rfl dX5_refused_2 (fun H locs hH => ?_)
  refine lv_iload_n hx hb dX5_refused_5 rfl (lv_at hl 1 rfl) ?_
  refine lv_if_le (tgt := 13) hx hb dX5_refused_6 (by decide) (fun c1 => ?_) (fun c1 => ?_)
  · have hf := it_t c1 hf
    refine lv_iconst (v := 0) hx hb dX5_refused_13 (by decide) ?_
    exact w5_refused_14 X hI hH (lv_sub hl [] rfl) hf
  · have hf := it_f c1 hf
    refine lv_iconst (v := 1) hx hb dX5_refused_9 (by decide) ?_
    refine lv_goto (tgt := 14) hx hb dX5_refused_10 (by decide) ?_
    exact w5_refused_14 X hI hH (lv_sub hl [] rfl) hf
set_option maxRecDepth 100000 in
set_option maxHeartbeats 4000000 in
theorem c5_refused (l : Launch) {D : va_G} {cI cZ : ClassId} {ad : Nat → Nat} {v0 v1 v2 v3 v4 v5 v6 v7 v8 : Nat → Int32} (hI : mInj ad) (sz : Nat) (x1 : Int32) {t : Int32 × (Nat → Int32)} (hf : f5_refused_0 x1 v0 = some t) : Met l yX5_refused uX5_refused rm5_refused (va_Pc [.ref (ad 0), .int x1] (fun U => U.heap.size = sz ∧ mB D cI cZ ad v0 v1 v2 v3 v4 v5 v6 v7 v8 U)) (va_Qi (fun (r9 : Int32) (_ : Unit) => r9 = t.1) (fun _ t9 => mB D cI cZ ad t.2 v1 v2 v3 v4 v5 v6 v7 v8 t9) (mA ad sz)) 0 0 (mA ad sz) := by
  refine Met.ofW (cc := cX5_refused) (maxL := 2) (ret := (some .boolean)) (by decide) rfl ?_
  intro p e s m args below meth c s₁ B hml hv
  obtain ⟨rfl, hsz, hP, hK⟩ := hv
  subst hsz
  have X : mX D cI cZ p s m ([.ref (ad 0), .int x1] : List Value).toArray meth c cX5_refused 2 (some .boolean) := ⟨⟨B.exec, B.bytes, hml, findClass_of_methodNamed B.named, fun w h => atoms_spec (ws := uX5_refused) B.pre w (List.mem_cons_of_mem _ h)⟩, B.returns, B.notSynchronized, hK⟩
  have hl := lv_entry ([.ref (ad 0), .int x1]) (n := 2) (Nat.le_of_ble_eq_true rfl)
  rw [lg_entry_eq]
  generalize (lg_sl ([.ref (ad 0), .int x1]) ++ List.replicate (2 - (lg_sl ([.ref (ad 0), .int x1])).length) Slot.unset).toArray = ls at hl ⊢
  have hl : lv_has ls 2 [(0, .ref (ad 0)), (1, .int x1)] := hl
  exact w5_refused_0 X hI ⟨hP, va_S.rf⟩ (lv_sub hl [0, 1] rfl) hf
set_option maxRecDepth 100000 in
set_option maxHeartbeats 4000000 in
theorem k5_refused {p : Program} {l : Launch} {e : Env} {R : Room} {s : State} {m : MethodId} {args : Array Value} {below : List Frame} {meth : Method} {c : Code} {cc : ByteArray} {nL : Nat} {ret : Option FieldType} {D : va_G} {cI cZ : ClassId} {ad : Nat → Nat} {v0 v1 v2 v3 v4 v5 v6 v7 v8 : Nat → Int32} {H : Heap} {locs : List Loc} {cells slots : Nat} {Q : State → Prop} {pc : Nat} {ls : Array Slot} {rest : List Value} (X : mX D cI cZ p s m args meth c cc nL ret) (hI : mInj ad) (hH : mH D cI cZ ad v0 v1 v2 v3 v4 v5 v6 v7 v8 s H locs) (hls : ls.size = nL) {index : Nat} (hG : GoodIn gw (wsV RX5 index RX5 yX5_refused uX5_refused)) (hR : rm5_refused.frames + 1 ≤ R.frames ∧ 8 + (2 + 11) + rm5_refused.locals ≤ R.locals) {x1 : Int32} {t : Int32 × (Nat → Int32)} (hf : f5_refused_0 x1 v0 = some t) (hrest : (rest.map fun v => v.category).sum ≤ 8) (hdg : decode cc pc = .ok (.invokevirtual index, 3)) (hc : cells ≤ R.cells ∧ slots ≤ R.slots) (kk : ∀ (H1 : Heap) (locs1 : List Loc), mH D cI cZ ad t.2 v1 v2 v3 v4 v5 v6 v7 v8 s H1 locs1 → W p l e R s m args below meth c H1 locs1 cells slots Q (F0 m (pc + 3) ls (.int t.1 :: rest))) : W p l e R s m args below meth c H locs cells slots Q (F0 m pc ls (.int x1 :: .ref (ad 0) :: rest)) := by
  have hA : ∀ q, mA ad H.size q → mA ad s.heap.size q := fun q h => h.elim Or.inl (fun h => Or.inr (Nat.le_trans hH.2.1 h))
  refine va_calli (va_runV (As := [.int x1]) (rest := rest) X.1 (c5_refused l hI H.size x1 hf) (cwV 1 X.1.2.2.2.2 hG rfl rfl rfl (by decide +kernel) hR) ⟨mBs_bl, va_recv X.2.2.2 hH.1 (ci := 5) (q0 := 0) rfl rfl, fun U hU hW => ⟨rfl, by rw [hU], by rw [hU]; exact hH.1, va_K.moved hW.alike X.2.2.2⟩⟩ rfl rfl hls rfl (lv_room hrest) hdg hc) hH.2 (fun q _ h => hA q h) hA (fun r9 u t9 H1 locs1 ht hvm hw hB hz1 hk1 hS => ?_)
  subst hw
  exact kk H1 locs1 ⟨by rw [← ht]; exact hB.1, hS⟩
/-! OreRailwayModel.in(III)Z -/
def rm5_in : Room := { frames := 0, cells := 0, slots := 0, locals := 0 }
def f5_in_15 (y0 : Int32) : Option (Int32) := gz y0 (some y0)
set_option maxRecDepth 100000 in
set_option maxHeartbeats 4000000 in
theorem w5_in_15 {p : Program} {l : Launch} {e : Env} {s : State} {m : MethodId} {args : Array Value} {below : List Frame} {meth : Method} {c : Code} (X : sX p s m args meth c cX5_in 3 RX5 (some .boolean)) {y0 : Int32} {t : Int32}  {ls : Array Slot} (hl : lv_has ls 3 []) (hf : f5_in_15 y0 = some t) : W p l e rm5_in s m args below meth c s.heap [] 0 0 (MQ below (QcRead t) args s 0 0 (fun _ => False)) (F0 m 15 ls [.int y0]) := by
  obtain ⟨⟨hx, hb, hml, hown, hts⟩, hr, hlk⟩ := id X
  replace hf : (gz y0 (some y0)) = some t := hf
  obtain ⟨hz, hf⟩ := gz_o hf
  obtain rfl := so_i hf
  exact rd_z hx hb hr hlk (nz_z hz) dX5_in_15
def f5_in_14 : Option (Int32) := f5_in_15 0
set_option maxRecDepth 100000 in
set_option maxHeartbeats 4000000 in
theorem w5_in_14 {p : Program} {l : Launch} {e : Env} {s : State} {m : MethodId} {args : Array Value} {below : List Frame} {meth : Method} {c : Code} (X : sX p s m args meth c cX5_in 3 RX5 (some .boolean)) {t : Int32}  {ls : Array Slot} (hl : lv_has ls 3 []) (hf : f5_in_14  = some t) : W p l e rm5_in s m args below meth c s.heap [] 0 0 (MQ below (QcRead t) args s 0 0 (fun _ => False)) (F0 m 14 ls []) := by
  obtain ⟨⟨hx, hb, hml, hown, hts⟩, hr, hlk⟩ := id X
  replace hf : (f5_in_15 0) = some t := hf
  refine lv_iconst (v := 0) hx hb dX5_in_14 (by decide) ?_
  exact w5_in_15 X  (lv_sub hl [] rfl) hf
def f5_in_0 (x0 : Int32) (x1 : Int32) (x2 : Int32) : Option (Int32) := if x0 < x1 then (f5_in_14 ) else (if x2 < x0 then (f5_in_14 ) else (f5_in_15 1))
set_option maxRecDepth 100000 in
set_option maxHeartbeats 4000000 in
theorem w5_in_0 {p : Program} {l : Launch} {e : Env} {s : State} {m : MethodId} {args : Array Value} {below : List Frame} {meth : Method} {c : Code} (X : sX p s m args meth c cX5_in 3 RX5 (some .boolean)) {x0 : Int32} {x1 : Int32} {x2 : Int32} {t : Int32}  {ls : Array Slot} (hl : lv_has ls 3 [(0, .int x0), (1, .int x1), (2, .int x2)]) (hf : f5_in_0 x0 x1 x2 = some t) : W p l e rm5_in s m args below meth c s.heap [] 0 0 (MQ below (QcRead t) args s 0 0 (fun _ => False)) (F0 m 0 ls []) := by
  obtain ⟨⟨hx, hb, hml, hown, hts⟩, hr, hlk⟩ := id X
  replace hf : (if x0 < x1 then (f5_in_14 ) else (if x2 < x0 then (f5_in_14 ) else (f5_in_15 1))) = some t := hf
  refine lv_iload_n hx hb dX5_in_0 rfl (lv_at hl 0 rfl) ?_
  refine lv_iload_n hx hb dX5_in_1 rfl (lv_at hl 1 rfl) ?_
  refine lv_icmp_lt (tgt := 14) hx hb dX5_in_2 (by decide) (fun c1 => ?_) (fun c1 => ?_)
  · have hf := it_t c1 hf
    exact w5_in_14 X  (lv_sub hl [] rfl) hf
  · have hf := it_f c1 hf
    refine lv_iload_n hx hb dX5_in_5 rfl (lv_at hl 0 rfl) ?_
    refine lv_iload_n hx hb dX5_in_6 rfl (lv_at hl 2 rfl) ?_
    refine lv_icmp_gt (tgt := 14) hx hb dX5_in_7 (by decide) (fun c2 => ?_) (fun c2 => ?_)
    · have hf := it_t c2 hf
      exact w5_in_14 X  (lv_sub hl [] rfl) hf
    · have hf := it_f c2 hf
      refine lv_iconst (v := 1) hx hb dX5_in_10 (by decide) ?_
      refine lv_goto (tgt := 15) hx hb dX5_in_11 (by decide) ?_
      exact w5_in_15 X  (lv_sub hl [] rfl) hf
set_option maxRecDepth 100000 in
set_option maxHeartbeats 4000000 in
theorem c5_in (l : Launch) (x0 : Int32) (x1 : Int32) (x2 : Int32) {t : Int32} (hf : f5_in_0 x0 x1 x2 = some t) : Met l yX5_in uX5_in rm5_in (fun v _ => v = ([.int x0, .int x1, .int x2] : List Value).toArray) (QcRead t) 0 0 (fun _ => False) := by
  refine Met.ofW (cc := cX5_in) (maxL := 3) (ret := (some .boolean)) (by decide) rfl ?_
  intro p e s m args below meth c s₁ B hml hv
  obtain rfl := hv
  have X : sX p s m ([.int x0, .int x1, .int x2] : List Value).toArray meth c cX5_in 3 RX5 (some .boolean) := ⟨⟨B.exec, B.bytes, hml, findClass_of_methodNamed B.named, fun w h => atoms_spec (ws := uX5_in) B.pre w (List.mem_cons_of_mem _ h)⟩, B.returns, B.notSynchronized⟩
  have hl := lv_entry ([.int x0, .int x1, .int x2]) (n := 3) (Nat.le_of_ble_eq_true rfl)
  rw [lg_entry_eq]
  generalize (lg_sl ([.int x0, .int x1, .int x2]) ++ List.replicate (3 - (lg_sl ([.int x0, .int x1, .int x2])).length) Slot.unset).toArray = ls at hl ⊢
  have hl : lv_has ls 3 [(0, .int x0), (1, .int x1), (2, .int x2)] := hl
  exact w5_in_0 X (lv_sub hl [0, 1, 2] rfl) hf
set_option maxRecDepth 100000 in
set_option maxHeartbeats 4000000 in
theorem k5_in {p : Program} {l : Launch} {e : Env} {R : Room} {s : State} {m : MethodId} {args : Array Value} {below : List Frame} {meth : Method} {c : Code} {cc : ByteArray} {nL : Nat} {own : String} {H : Heap} {locs : List Loc} {cells slots : Nat} {Q : State → Prop} {pc : Nat} {ls : Array Slot} {rest : List Value} (S : CallFix p m c cc nL s args gw own) (hls : ls.size = nL) {index : Nat} (hG : GoodIn gw (va_wsS own index yX5_in uX5_in)) (hR : rm5_in.frames + 1 ≤ R.frames ∧ 8 + (3 + 11) + rm5_in.locals ≤ R.locals) {x0 : Int32} {x1 : Int32} {x2 : Int32} {t : Int32} (hf : f5_in_0 x0 x1 x2 = some t) (hrest : (rest.map fun v => v.category).sum ≤ 8) (hdg : decode cc pc = .ok (.invokestatic index, 3)) (hc : cells ≤ R.cells ∧ slots ≤ R.slots) (kk : W p l e R s m args below meth c H locs cells slots Q (F0 m (pc + 3) ls (.int t :: rest))) : W p l e R s m args below meth c H locs cells slots Q (F0 m pc ls (.int x2 :: .int x1 :: .int x0 :: rest)) :=
  W.callR (W.runS S (c5_in l x0 x1 x2 hf) (va_cwS 3 S.2.2.2.2 hG rfl rfl rfl (by decide +kernel) hR) preEq rfl rfl hls rfl (lv_room hrest) hdg hc) kk
/-! OreRailwayModel.of(II)I -/
def rm5_of : Room := { frames := 0, cells := 0, slots := 0, locals := 0 }
def f5_of_0 (x0 : Int32) (x1 : Int32) : Option (Int32) := some ((90 + (9 * x0)) + x1)
set_option maxRecDepth 100000 in
set_option maxHeartbeats 4000000 in
theorem w5_of_0 {p : Program} {l : Launch} {e : Env} {s : State} {m : MethodId} {args : Array Value} {below : List Frame} {meth : Method} {c : Code} (X : sX p s m args meth c cX5_of 2 RX5 (some .int)) {x0 : Int32} {x1 : Int32} {t : Int32}  {ls : Array Slot} (hl : lv_has ls 2 [(0, .int x0), (1, .int x1)]) (hf : f5_of_0 x0 x1 = some t) : W p l e rm5_of s m args below meth c s.heap [] 0 0 (MQ below (QcRead t) args s 0 0 (fun _ => False)) (F0 m 0 ls []) := by
  obtain ⟨⟨hx, hb, hml, hown, hts⟩, hr, hlk⟩ := id X
  replace hf : (some ((90 + (9 * x0)) + x1)) = some t := hf
  refine lv_bipush (v := 90) hx hb dX5_of_0 (by decide) ?_
  refine lv_bipush (v := 9) hx hb dX5_of_2 (by decide) ?_
  refine lv_iload_n hx hb dX5_of_4 rfl (lv_at hl 0 rfl) ?_
  refine lv_imul hx hb dX5_of_5 ?_
  refine lv_iadd hx hb dX5_of_6 ?_
  refine lv_iload_n hx hb dX5_of_7 rfl (lv_at hl 1 rfl) ?_
  refine lv_iadd hx hb dX5_of_8 ?_
  obtain rfl := so_i hf
  exact rd_i hx hb hr hlk dX5_of_9
set_option maxRecDepth 100000 in
set_option maxHeartbeats 4000000 in
theorem c5_of (l : Launch) (x0 : Int32) (x1 : Int32) {t : Int32} (hf : f5_of_0 x0 x1 = some t) : Met l yX5_of uX5_of rm5_of (fun v _ => v = ([.int x0, .int x1] : List Value).toArray) (QcRead t) 0 0 (fun _ => False) := by
  refine Met.ofW (cc := cX5_of) (maxL := 2) (ret := (some .int)) (by decide) rfl ?_
  intro p e s m args below meth c s₁ B hml hv
  obtain rfl := hv
  have X : sX p s m ([.int x0, .int x1] : List Value).toArray meth c cX5_of 2 RX5 (some .int) := ⟨⟨B.exec, B.bytes, hml, findClass_of_methodNamed B.named, fun w h => atoms_spec (ws := uX5_of) B.pre w (List.mem_cons_of_mem _ h)⟩, B.returns, B.notSynchronized⟩
  have hl := lv_entry ([.int x0, .int x1]) (n := 2) (Nat.le_of_ble_eq_true rfl)
  rw [lg_entry_eq]
  generalize (lg_sl ([.int x0, .int x1]) ++ List.replicate (2 - (lg_sl ([.int x0, .int x1])).length) Slot.unset).toArray = ls at hl ⊢
  have hl : lv_has ls 2 [(0, .int x0), (1, .int x1)] := hl
  exact w5_of_0 X (lv_sub hl [0, 1] rfl) hf
set_option maxRecDepth 100000 in
set_option maxHeartbeats 4000000 in
theorem kk5_of {p : Program} {l : Launch} {e : Env} {R : Room} {s : State} {m : MethodId} {args : Array Value} {below : List Frame} {meth : Method} {c : Code} {cc : ByteArray} {nL : Nat} {own : String} {H : Heap} {locs : List Loc} {cells slots : Nat} {Q : State → Prop} {pc : Nat} {ls : Array Slot} {rest : List Value} (S : CallFix p m c cc nL s args gw own) (hls : ls.size = nL) {index : Nat} (hG : GoodIn gw (va_wsS own index yX5_of uX5_of)) (hR : rm5_of.frames + 1 ≤ R.frames ∧ 8 + (2 + 11) + rm5_of.locals ≤ R.locals) {x0 : Int32} {x1 : Int32} {t : Int32} (hf : f5_of_0 x0 x1 = some t) (hrest : (rest.map fun v => v.category).sum ≤ 8) (hdg : decode cc pc = .ok (.invokestatic index, 3)) (hc : cells ≤ R.cells ∧ slots ≤ R.slots) (kk : W p l e R s m args below meth c H locs cells slots Q (F0 m (pc + 3) ls (.int t :: rest))) : W p l e R s m args below meth c H locs cells slots Q (F0 m pc ls (.int x1 :: .int x0 :: rest)) :=
  W.callR (W.runS S (c5_of l x0 x1 hf) (va_cwS 2 S.2.2.2.2 hG rfl rfl rfl (by decide +kernel) hR) preEq rfl rfl hls rfl (lv_room hrest) hdg hc) kk
def e5_of (x0 x1 : Int32) : Int32 := ((90 + (9 * x0)) + x1)
set_option maxRecDepth 100000 in
set_option maxHeartbeats 4000000 in
theorem k5_of {p : Program} {l : Launch} {e : Env} {R : Room} {s : State} {m : MethodId} {args : Array Value} {below : List Frame} {meth : Method} {c : Code} {cc : ByteArray} {nL : Nat} {own : String} {H : Heap} {locs : List Loc} {cells slots : Nat} {Q : State → Prop} {pc : Nat} {ls : Array Slot} {rest : List Value} (S : CallFix p m c cc nL s args gw own) (hls : ls.size = nL) {index : Nat} (hG : GoodIn gw (va_wsS own index yX5_of uX5_of)) (hR : rm5_of.frames + 1 ≤ R.frames ∧ 8 + (2 + 11) + rm5_of.locals ≤ R.locals) {x0 : Int32} {x1 : Int32} (hrest : (rest.map fun v => v.category).sum ≤ 8) (hdg : decode cc pc = .ok (.invokestatic index, 3)) (hc : cells ≤ R.cells ∧ slots ≤ R.slots) (kk : W p l e R s m args below meth c H locs cells slots Q (F0 m (pc + 3) ls (.int (e5_of x0 x1) :: rest))) : W p l e R s m args below meth c H locs cells slots Q (F0 m pc ls (.int x1 :: .int x0 :: rest)) := kk5_of S hls hG hR (t := e5_of x0 x1) rfl hrest hdg hc kk
/-! OreRailwayModel.isCar(I)Z -/
def rm5_isCar : Room := { frames := 1, cells := 0, slots := 0, locals := 22 }
def f5_isCar_0 (v1 : Nat → Int32) (x1 : Int32) : Option (Int32) := gd 162 171 (Option.bind (f5_in_0 x1 0 ((v1 (Int32.toNatClampNeg 162)) - 1)) (fun t2 => gz t2 (some t2)))
set_option maxRecDepth 100000 in
set_option maxHeartbeats 4000000 in
theorem w5_isCar_0 {p : Program} {l : Launch} {e : Env} {s : State} {m : MethodId} {args : Array Value} {below : List Frame} {meth : Method} {c : Code} {D : va_G} {cI cZ : ClassId} {ad : Nat → Nat} {v0 v1 v2 v3 v4 v5 v6 v7 v8 : Nat → Int32} (X : mX D cI cZ p s m args meth c cX5_isCar 2 (some .boolean)) (hP : va_P D vwCl (mwW cI cZ ad v0 v1 v2 v3 v4 v5 v6 v7 v8) s.heap) {x1 : Int32} {t : Int32}  {ls : Array Slot} (hl : lv_has ls 2 [(0, .ref (ad 0)), (1, .int x1)]) (hf : f5_isCar_0 v1 x1 = some t) : W p l e rm5_isCar s m args below meth c s.heap [] 0 0 (MQ below (QcRead t) args s 0 0 (fun _ => False)) (F0 m 0 ls []) := by
  obtain ⟨⟨hx, hb, hml, hown, hts⟩, hr, hlk, hK⟩ := id X
  replace hf : (gd 162 171 (Option.bind (f5_in_0 x1 0 ((v1 (Int32.toNatClampNeg 162)) - 1)) (fun t2 => gz t2 (some t2)))) = some t := hf
  refine lv_iload_n hx hb dX5_isCar_0 rfl (lv_at hl 1 rfl) ?_
  refine lv_iconst (v := 0) hx hb dX5_isCar_1 (by decide) ?_
  refine lv_aload_n hx hb dX5_isCar_2 rfl (lv_at hl 0 rfl) ?_
  refine mr_get X hP (k := 0) (v := .ref (ad 1)) (by decide) gfX5_7 rfl dX5_isCar_3 ?_
  refine lv_sipush (v := 162) hx hb dX5_isCar_6 (by decide) ?_
  obtain ⟨hi1, hf⟩ := gd_o hf
  refine mr_ld1 X hP hi1 dX5_isCar_9 ?_
  refine lv_iconst (v := 1) hx hb dX5_isCar_10 (by decide) ?_
  refine lv_isub hx hb dX5_isCar_11 ?_
  obtain ⟨t2, ht2, hf⟩ := bd_o hf
  refine k5_in X.1 hl.1 qX5_39 ⟨Nat.le_of_ble_eq_true rfl, Nat.le_of_ble_eq_true rfl⟩ ht2 (Nat.le_of_ble_eq_true rfl) dX5_isCar_12 ⟨Nat.zero_le _, Nat.zero_le _⟩ ?_
  obtain ⟨hz, hf⟩ := gz_o hf
  obtain rfl := so_i hf
  exact rd_z hx hb hr hlk (nz_z hz) dX5_isCar_15
set_option maxRecDepth 100000 in
set_option maxHeartbeats 4000000 in
theorem c5_isCar (l : Launch) {D : va_G} {cI cZ : ClassId} {ad : Nat → Nat} {v0 v1 v2 v3 v4 v5 v6 v7 v8 : Nat → Int32} (x1 : Int32) {t : Int32} (hf : f5_isCar_0 v1 x1 = some t) : Met l yX5_isCar uX5_isCar rm5_isCar (va_Pc [.ref (ad 0), .int x1] (mB D cI cZ ad v0 v1 v2 v3 v4 v5 v6 v7 v8)) (QcRead t) 0 0 (fun _ => False) := by
  refine Met.ofW (cc := cX5_isCar) (maxL := 2) (ret := (some .boolean)) (by decide) rfl ?_
  intro p e s m args below meth c s₁ B hml hv
  obtain ⟨rfl, hP, hK⟩ := hv
  have X : mX D cI cZ p s m ([.ref (ad 0), .int x1] : List Value).toArray meth c cX5_isCar 2 (some .boolean) := ⟨⟨B.exec, B.bytes, hml, findClass_of_methodNamed B.named, fun w h => atoms_spec (ws := uX5_isCar) B.pre w (List.mem_cons_of_mem _ h)⟩, B.returns, B.notSynchronized, hK⟩
  have hl := lv_entry ([.ref (ad 0), .int x1]) (n := 2) (Nat.le_of_ble_eq_true rfl)
  rw [lg_entry_eq]
  generalize (lg_sl ([.ref (ad 0), .int x1]) ++ List.replicate (2 - (lg_sl ([.ref (ad 0), .int x1])).length) Slot.unset).toArray = ls at hl ⊢
  have hl : lv_has ls 2 [(0, .ref (ad 0)), (1, .int x1)] := hl
  exact w5_isCar_0 X hP (lv_sub hl [0, 1] rfl) hf
set_option maxRecDepth 100000 in
set_option maxHeartbeats 4000000 in
theorem k5_isCar {p : Program} {l : Launch} {e : Env} {R : Room} {s : State} {m : MethodId} {args : Array Value} {below : List Frame} {meth : Method} {c : Code} {cc : ByteArray} {nL : Nat} {ret : Option FieldType} {D : va_G} {cI cZ : ClassId} {ad : Nat → Nat} {v0 v1 v2 v3 v4 v5 v6 v7 v8 : Nat → Int32} {H : Heap} {locs : List Loc} {cells slots : Nat} {Q : State → Prop} {pc : Nat} {ls : Array Slot} {rest : List Value} (X : mX D cI cZ p s m args meth c cc nL ret) (hP : va_P D vwCl (mwW cI cZ ad v0 v1 v2 v3 v4 v5 v6 v7 v8) H) (hls : ls.size = nL) {index : Nat} (hG : GoodIn gw (wsV RX5 index RX5 yX5_isCar uX5_isCar)) (hR : rm5_isCar.frames + 1 ≤ R.frames ∧ 8 + (2 + 11) + rm5_isCar.locals ≤ R.locals) {x1 : Int32} {t : Int32} (hf : f5_isCar_0 v1 x1 = some t) (hrest : (rest.map fun v => v.category).sum ≤ 8) (hdg : decode cc pc = .ok (.invokevirtual index, 3)) (hc : cells ≤ R.cells ∧ slots ≤ R.slots) (kk : W p l e R s m args below meth c H locs cells slots Q (F0 m (pc + 3) ls (.int t :: rest))) : W p l e R s m args below meth c H locs cells slots Q (F0 m pc ls (.int x1 :: .ref (ad 0) :: rest)) :=
  W.callR (W.runV (As := [.int x1]) X.1 (c5_isCar l x1 hf) (cwV 1 X.1.2.2.2.2 hG rfl rfl rfl (by decide +kernel) hR) ⟨mB_bl, va_recv X.2.2.2 hP (ci := 5) (q0 := 0) rfl rfl, fun U hU hW => ⟨rfl, by rw [hU]; exact hP, va_K.moved hW.alike X.2.2.2⟩⟩ rfl rfl hls rfl (lv_room hrest) hdg hc) kk
/-! OreRailwayModel.isIn(II)Z -/
def rm5_isIn : Room := { frames := 1, cells := 0, slots := 0, locals := 21 }
def f5_isIn_19 (v1 : Nat → Int32) (y0 : Int32) : Option (Int32) := gz y0 (some y0)
set_option maxRecDepth 100000 in
set_option maxHeartbeats 4000000 in
theorem w5_isIn_19 {p : Program} {l : Launch} {e : Env} {s : State} {m : MethodId} {args : Array Value} {below : List Frame} {meth : Method} {c : Code} {D : va_G} {cI cZ : ClassId} {ad : Nat → Nat} {v0 v1 v2 v3 v4 v5 v6 v7 v8 : Nat → Int32} (X : mX D cI cZ p s m args meth c cX5_isIn 3 (some .boolean)) (hP : va_P D vwCl (mwW cI cZ ad v0 v1 v2 v3 v4 v5 v6 v7 v8) s.heap) {y0 : Int32} {t : Int32}  {ls : Array Slot} (hl : lv_has ls 3 []) (hf : f5_isIn_19 v1 y0 = some t) : W p l e rm5_isIn s m args below meth c s.heap [] 0 0 (MQ below (QcRead t) args s 0 0 (fun _ => False)) (F0 m 19 ls [.int y0]) := by
  obtain ⟨⟨hx, hb, hml, hown, hts⟩, hr, hlk, hK⟩ := id X
  replace hf : (gz y0 (some y0)) = some t := hf
  obtain ⟨hz, hf⟩ := gz_o hf
  obtain rfl := so_i hf
  exact rd_z hx hb hr hlk (nz_z hz) dX5_isIn_19
def f5_isIn_0 (v1 : Nat → Int32) (x1 : Int32) (x2 : Int32) : Option (Int32) := gd (e5_of x1 0) 171 (if (v1 (Int32.toNatClampNeg (e5_of x1 0))) = x2 then (f5_isIn_19 v1 1) else (f5_isIn_19 v1 0))
set_option maxRecDepth 100000 in
set_option maxHeartbeats 4000000 in
theorem w5_isIn_0 {p : Program} {l : Launch} {e : Env} {s : State} {m : MethodId} {args : Array Value} {below : List Frame} {meth : Method} {c : Code} {D : va_G} {cI cZ : ClassId} {ad : Nat → Nat} {v0 v1 v2 v3 v4 v5 v6 v7 v8 : Nat → Int32} (X : mX D cI cZ p s m args meth c cX5_isIn 3 (some .boolean)) (hP : va_P D vwCl (mwW cI cZ ad v0 v1 v2 v3 v4 v5 v6 v7 v8) s.heap) {x1 : Int32} {x2 : Int32} {t : Int32}  {ls : Array Slot} (hl : lv_has ls 3 [(0, .ref (ad 0)), (1, .int x1), (2, .int x2)]) (hf : f5_isIn_0 v1 x1 x2 = some t) : W p l e rm5_isIn s m args below meth c s.heap [] 0 0 (MQ below (QcRead t) args s 0 0 (fun _ => False)) (F0 m 0 ls []) := by
  obtain ⟨⟨hx, hb, hml, hown, hts⟩, hr, hlk, hK⟩ := id X
  replace hf : (gd (e5_of x1 0) 171 (if (v1 (Int32.toNatClampNeg (e5_of x1 0))) = x2 then (f5_isIn_19 v1 1) else (f5_isIn_19 v1 0))) = some t := hf
  refine lv_aload_n hx hb dX5_isIn_0 rfl (lv_at hl 0 rfl) ?_
  refine mr_get X hP (k := 0) (v := .ref (ad 1)) (by decide) gfX5_7 rfl dX5_isIn_1 ?_
  refine lv_iload_n hx hb dX5_isIn_4 rfl (lv_at hl 1 rfl) ?_
  refine lv_iconst (v := 0) hx hb dX5_isIn_5 (by decide) ?_
  refine k5_of X.1 hl.1 qX5_43 ⟨Nat.le_of_ble_eq_true rfl, Nat.le_of_ble_eq_true rfl⟩ (Nat.le_of_ble_eq_true rfl) dX5_isIn_6 ⟨Nat.zero_le _, Nat.zero_le _⟩ ?_
  obtain ⟨hi1, hf⟩ := gd_o hf
  refine mr_ld1 X hP hi1 dX5_isIn_9 ?_
  refine lv_iload_n hx hb dX5_isIn_10 rfl (lv_at hl 2 rfl) ?_
  refine lv_icmp_ne (tgt := 18) hx hb dX5_isIn_11 (by decide) (fun c2 => ?_) (fun c2 => ?_)
  · have hf := it_f c2 hf
    refine lv_iconst (v := 0) hx hb dX5_isIn_18 (by decide) ?_
    exact w5_isIn_19 X hP  (lv_sub hl [] rfl) hf
  · have hf := it_t c2 hf
    refine lv_iconst (v := 1) hx hb dX5_isIn_14 (by decide) ?_
    refine lv_goto (tgt := 19) hx hb dX5_isIn_15 (by decide) ?_
    exact w5_isIn_19 X hP  (lv_sub hl [] rfl) hf
set_option maxRecDepth 100000 in
set_option maxHeartbeats 4000000 in
theorem c5_isIn (l : Launch) {D : va_G} {cI cZ : ClassId} {ad : Nat → Nat} {v0 v1 v2 v3 v4 v5 v6 v7 v8 : Nat → Int32} (x1 : Int32) (x2 : Int32) {t : Int32} (hf : f5_isIn_0 v1 x1 x2 = some t) : Met l yX5_isIn uX5_isIn rm5_isIn (va_Pc [.ref (ad 0), .int x1, .int x2] (mB D cI cZ ad v0 v1 v2 v3 v4 v5 v6 v7 v8)) (QcRead t) 0 0 (fun _ => False) := by
  refine Met.ofW (cc := cX5_isIn) (maxL := 3) (ret := (some .boolean)) (by decide) rfl ?_
  intro p e s m args below meth c s₁ B hml hv
  obtain ⟨rfl, hP, hK⟩ := hv
  have X : mX D cI cZ p s m ([.ref (ad 0), .int x1, .int x2] : List Value).toArray meth c cX5_isIn 3 (some .boolean) := ⟨⟨B.exec, B.bytes, hml, findClass_of_methodNamed B.named, fun w h => atoms_spec (ws := uX5_isIn) B.pre w (List.mem_cons_of_mem _ h)⟩, B.returns, B.notSynchronized, hK⟩
  have hl := lv_entry ([.ref (ad 0), .int x1, .int x2]) (n := 3) (Nat.le_of_ble_eq_true rfl)
  rw [lg_entry_eq]
  generalize (lg_sl ([.ref (ad 0), .int x1, .int x2]) ++ List.replicate (3 - (lg_sl ([.ref (ad 0), .int x1, .int x2])).length) Slot.unset).toArray = ls at hl ⊢
  have hl : lv_has ls 3 [(0, .ref (ad 0)), (1, .int x1), (2, .int x2)] := hl
  exact w5_isIn_0 X hP (lv_sub hl [0, 1, 2] rfl) hf
set_option maxRecDepth 100000 in
set_option maxHeartbeats 4000000 in
theorem k5_isIn {p : Program} {l : Launch} {e : Env} {R : Room} {s : State} {m : MethodId} {args : Array Value} {below : List Frame} {meth : Method} {c : Code} {cc : ByteArray} {nL : Nat} {ret : Option FieldType} {D : va_G} {cI cZ : ClassId} {ad : Nat → Nat} {v0 v1 v2 v3 v4 v5 v6 v7 v8 : Nat → Int32} {H : Heap} {locs : List Loc} {cells slots : Nat} {Q : State → Prop} {pc : Nat} {ls : Array Slot} {rest : List Value} (X : mX D cI cZ p s m args meth c cc nL ret) (hP : va_P D vwCl (mwW cI cZ ad v0 v1 v2 v3 v4 v5 v6 v7 v8) H) (hls : ls.size = nL) {index : Nat} (hG : GoodIn gw (wsV RX5 index RX5 yX5_isIn uX5_isIn)) (hR : rm5_isIn.frames + 1 ≤ R.frames ∧ 8 + (3 + 11) + rm5_isIn.locals ≤ R.locals) {x1 : Int32} {x2 : Int32} {t : Int32} (hf : f5_isIn_0 v1 x1 x2 = some t) (hrest : (rest.map fun v => v.category).sum ≤ 8) (hdg : decode cc pc = .ok (.invokevirtual index, 3)) (hc : cells ≤ R.cells ∧ slots ≤ R.slots) (kk : W p l e R s m args below meth c H locs cells slots Q (F0 m (pc + 3) ls (.int t :: rest))) : W p l e R s m args below meth c H locs cells slots Q (F0 m pc ls (.int x2 :: .int x1 :: .ref (ad 0) :: rest)) :=
  W.callR (W.runV (As := [.int x1, .int x2]) X.1 (c5_isIn l x1 x2 hf) (cwV 2 X.1.2.2.2.2 hG rfl rfl rfl (by decide +kernel) hR) ⟨mB_bl, va_recv X.2.2.2 hP (ci := 5) (q0 := 0) rfl rfl, fun U hU hW => ⟨rfl, by rw [hU]; exact hP, va_K.moved hW.alike X.2.2.2⟩⟩ rfl rfl hls rfl (lv_room hrest) hdg hc) kk
/-! OreRailwayModel.saves()V -/
def rm5_saves : Room := { frames := 0, cells := 0, slots := 0, locals := 0 }
def f5_saves_52 (v1 : Nat → Int32) : Nat → Int32 → (Nat → Int32) → (Nat → Int32) → Option ((Nat → Int32) × (Nat → Int32))
  | 0, _, _, _ => none
  | n + 1, x1, v0, v3 => if 171 ≤ x1 then (some (upd v0 3 ((v0 3) + 1), v3)) else (gd x1 171 (gd ((171 * (v0 3)) + x1) 1026 ((f5_saves_52 v1 n) (x1 + 1) v0 (upd v3 (Int32.toNatClampNeg ((171 * (v0 3)) + x1)) (v1 (Int32.toNatClampNeg x1))))))
set_option maxRecDepth 100000 in
set_option maxHeartbeats 4000000 in
theorem w5_saves_52 {p : Program} {l : Launch} {e : Env} {s : State} {m : MethodId} {args : Array Value} {below : List Frame} {meth : Method} {c : Code} {D : va_G} {cI cZ : ClassId} {ad : Nat → Nat} {v1 v2 v4 v5 v6 v7 v8 : Nat → Int32} (X : mX D cI cZ p s m args meth c cX5_saves 2 none) (hI : mInj ad) {t : (Nat → Int32) × (Nat → Int32)} :
    ∀ (n : Nat) (x1 : Int32) (v0 : Nat → Int32) (v3 : Nat → Int32) (H : Heap) (locs : List Loc), mH D cI cZ ad v0 v1 v2 v3 v4 v5 v6 v7 v8 s H locs → ∀ (ls : Array Slot), lv_has ls 2 [(0, .ref (ad 0)), (1, .int x1)] → f5_saves_52 v1 n x1 v0 v3 = some t → W p l e rm5_saves s m args below meth c H locs 0 0 (MQ below (va_Qv (fun (_ : Unit) => True) (fun _ t9 => mB D cI cZ ad t.1 v1 v2 t.2 v4 v5 v6 v7 v8 t9) (mA ad s.heap.size)) args s 0 0 (mA ad s.heap.size)) (F0 m 52 ls []) := by
  obtain ⟨⟨hx, hb, hml, hown, hts⟩, hr, hlk, hK⟩ := id X
  intro n
  induction n with
  | zero =>
    intro x1 v0 v3 H locs hH ls hl hf
    cases hf
  | succ n ih =>
    intro x1 v0 v3 H locs hH ls hl hf
    replace hf : (if 171 ≤ x1 then (some (upd v0 3 ((v0 3) + 1), v3)) else (gd x1 171 (gd ((171 * (v0 3)) + x1) 1026 ((f5_saves_52 v1 n) (x1 + 1) v0 (upd v3 (Int32.toNatClampNeg ((171 * (v0 3)) + x1)) (v1 (Int32.toNatClampNeg x1))))))) = some t := hf
    refine lv_iload_n hx hb dX5_saves_52 rfl (lv_at hl 1 rfl) ?_
    refine lv_sipush (v := 171) hx hb dX5_saves_53 (by decide) ?_
    refine lv_icmp_ge (tgt := 86) hx hb dX5_saves_56 (by decide) (fun c1 => ?_) (fun c1 => ?_)
    · have hf := it_t c1 hf
      refine lv_aload_n hx hb dX5_saves_86 rfl (lv_at hl 0 rfl) ?_
      refine lv_dup hx hb dX5_saves_87 rfl ?_
      refine mr_get X hH.1 (k := 3) (v := .int (v0 3)) (by decide) gfX5_47 rfl dX5_saves_88 ?_
      refine lv_iconst (v := 1) hx hb dX5_saves_91 (by decide) ?_
      refine lv_iadd hx hb dX5_saves_92 ?_
      refine mr_put X hI hH 3 (by decide) gfX5_47 rfl rfl dX5_saves_93 (fun H locs hH => ?_)
      obtain rfl := so_i hf
      exact mr_vw X hH rfl dX5_saves_96
    · have hf := it_f c1 hf
      refine lv_aload_n hx hb dX5_saves_59 rfl (lv_at hl 0 rfl) ?_
      refine mr_get X hH.1 (k := 2) (v := .ref (ad 3)) (by decide) gfX5_16 rfl dX5_saves_60 ?_
      refine lv_sipush (v := 171) hx hb dX5_saves_63 (by decide) ?_
      refine lv_aload_n hx hb dX5_saves_66 rfl (lv_at hl 0 rfl) ?_
      refine mr_get X hH.1 (k := 3) (v := .int (v0 3)) (by decide) gfX5_47 rfl dX5_saves_67 ?_
      refine lv_imul hx hb dX5_saves_70 ?_
      refine lv_iload_n hx hb dX5_saves_71 rfl (lv_at hl 1 rfl) ?_
      refine lv_iadd hx hb dX5_saves_72 ?_
      refine lv_aload_n hx hb dX5_saves_73 rfl (lv_at hl 0 rfl) ?_
      refine mr_get X hH.1 (k := 0) (v := .ref (ad 1)) (by decide) gfX5_7 rfl dX5_saves_74 ?_
      refine lv_iload_n hx hb dX5_saves_77 rfl (lv_at hl 1 rfl) ?_
      obtain ⟨hi2, hf⟩ := gd_o hf
      refine mr_ld1 X hH.1 hi2 dX5_saves_78 ?_
      obtain ⟨hi3, hf⟩ := gd_o hf
      refine mr_st3 X hI hH hi3 dX5_saves_79 (fun H locs hH => ?_)
      refine lv_iinc (v := x1 + 1) (lv' := [(1, .int (x1 + 1)), (0, .ref (ad 0))]) hx hb dX5_saves_80 hl (k := 1) rfl rfl (by decide) rfl (fun ls hl => ?_)
      refine lv_goto (tgt := 52) hx hb dX5_saves_83 (by decide) ?_
      exact ih _ _ _ _ _ hH _ (lv_sub hl [1, 0] rfl) hf
def f5_saves_50 (v1 : Nat → Int32) (v0 : Nat → Int32) (v3 : Nat → Int32) : Option ((Nat → Int32) × (Nat → Int32)) := f5_saves_52 v1 fu 0 v0 v3
set_option maxRecDepth 100000 in
set_option maxHeartbeats 4000000 in
theorem w5_saves_50 {p : Program} {l : Launch} {e : Env} {s : State} {m : MethodId} {args : Array Value} {below : List Frame} {meth : Method} {c : Code} {D : va_G} {cI cZ : ClassId} {ad : Nat → Nat} {v0 v1 v2 v3 v4 v5 v6 v7 v8 : Nat → Int32} (X : mX D cI cZ p s m args meth c cX5_saves 2 none) (hI : mInj ad) {t : (Nat → Int32) × (Nat → Int32)}  {H : Heap} {locs : List Loc} (hH : mH D cI cZ ad v0 v1 v2 v3 v4 v5 v6 v7 v8 s H locs) {ls : Array Slot} (hl : lv_has ls 2 [(0, .ref (ad 0))]) (hf : f5_saves_50 v1 v0 v3 = some t) : W p l e rm5_saves s m args below meth c H locs 0 0 (MQ below (va_Qv (fun (_ : Unit) => True) (fun _ t9 => mB D cI cZ ad t.1 v1 v2 t.2 v4 v5 v6 v7 v8 t9) (mA ad s.heap.size)) args s 0 0 (mA ad s.heap.size)) (F0 m 50 ls []) := by
  obtain ⟨⟨hx, hb, hml, hown, hts⟩, hr, hlk, hK⟩ := id X
  replace hf : (f5_saves_52 v1 fu 0 v0 v3) = some t := hf
  refine lv_iconst (v := 0) hx hb dX5_saves_50 (by decide) ?_
  refine lv_istore_n (lv' := [(1, .int 0), (0, .ref (ad 0))]) hx hb dX5_saves_51 rfl hl (by decide) rfl (fun ls hl => ?_)
  exact w5_saves_52 X hI _ _ _ _ _ _ hH _ (lv_sub hl [1, 0] rfl) hf
def f5_saves_11 (v1 : Nat → Int32) : Nat → Int32 → (Nat → Int32) → (Nat → Int32) → Option ((Nat → Int32) × (Nat → Int32))
  | 0, _, _, _ => none
  | n + 1, x1, v0, v3 => if 855 ≤ x1 then (f5_saves_50 v1 (upd v0 3 ((v0 3) - 1)) v3) else (gd (171 + x1) 1026 (gd x1 1026 ((f5_saves_11 v1 n) (x1 + 1) v0 (upd v3 (Int32.toNatClampNeg x1) (v3 (Int32.toNatClampNeg (171 + x1)))))))
set_option maxRecDepth 100000 in
set_option maxHeartbeats 4000000 in
theorem w5_saves_11 {p : Program} {l : Launch} {e : Env} {s : State} {m : MethodId} {args : Array Value} {below : List Frame} {meth : Method} {c : Code} {D : va_G} {cI cZ : ClassId} {ad : Nat → Nat} {v1 v2 v4 v5 v6 v7 v8 : Nat → Int32} (X : mX D cI cZ p s m args meth c cX5_saves 2 none) (hI : mInj ad) {t : (Nat → Int32) × (Nat → Int32)} :
    ∀ (n : Nat) (x1 : Int32) (v0 : Nat → Int32) (v3 : Nat → Int32) (H : Heap) (locs : List Loc), mH D cI cZ ad v0 v1 v2 v3 v4 v5 v6 v7 v8 s H locs → ∀ (ls : Array Slot), lv_has ls 2 [(0, .ref (ad 0)), (1, .int x1)] → f5_saves_11 v1 n x1 v0 v3 = some t → W p l e rm5_saves s m args below meth c H locs 0 0 (MQ below (va_Qv (fun (_ : Unit) => True) (fun _ t9 => mB D cI cZ ad t.1 v1 v2 t.2 v4 v5 v6 v7 v8 t9) (mA ad s.heap.size)) args s 0 0 (mA ad s.heap.size)) (F0 m 11 ls []) := by
  obtain ⟨⟨hx, hb, hml, hown, hts⟩, hr, hlk, hK⟩ := id X
  intro n
  induction n with
  | zero =>
    intro x1 v0 v3 H locs hH ls hl hf
    cases hf
  | succ n ih =>
    intro x1 v0 v3 H locs hH ls hl hf
    replace hf : (if 855 ≤ x1 then (f5_saves_50 v1 (upd v0 3 ((v0 3) - 1)) v3) else (gd (171 + x1) 1026 (gd x1 1026 ((f5_saves_11 v1 n) (x1 + 1) v0 (upd v3 (Int32.toNatClampNeg x1) (v3 (Int32.toNatClampNeg (171 + x1)))))))) = some t := hf
    refine lv_iload_n hx hb dX5_saves_11 rfl (lv_at hl 1 rfl) ?_
    refine lv_sipush (v := 855) hx hb dX5_saves_12 (by decide) ?_
    refine lv_icmp_ge (tgt := 40) hx hb dX5_saves_15 (by decide) (fun c1 => ?_) (fun c1 => ?_)
    · have hf := it_t c1 hf
      refine lv_aload_n hx hb dX5_saves_40 rfl (lv_at hl 0 rfl) ?_
      refine lv_dup hx hb dX5_saves_41 rfl ?_
      refine mr_get X hH.1 (k := 3) (v := .int (v0 3)) (by decide) gfX5_47 rfl dX5_saves_42 ?_
      refine lv_iconst (v := 1) hx hb dX5_saves_45 (by decide) ?_
      refine lv_isub hx hb dX5_saves_46 ?_
      refine mr_put X hI hH 3 (by decide) gfX5_47 rfl rfl dX5_saves_47 (fun H locs hH => ?_)
      exact w5_saves_50 X hI hH (lv_sub hl [0] rfl) hf
    · have hf := it_f c1 hf
      refine lv_aload_n hx hb dX5_saves_18 rfl (lv_at hl 0 rfl) ?_
      refine mr_get X hH.1 (k := 2) (v := .ref (ad 3)) (by decide) gfX5_16 rfl dX5_saves_19 ?_
      refine lv_iload_n hx hb dX5_saves_22 rfl (lv_at hl 1 rfl) ?_
      refine lv_aload_n hx hb dX5_saves_23 rfl (lv_at hl 0 rfl) ?_
      refine mr_get X hH.1 (k := 2) (v := .ref (ad 3)) (by decide) gfX5_16 rfl dX5_saves_24 ?_
      refine lv_sipush (v := 171) hx hb dX5_saves_27 (by decide) ?_
      refine lv_iload_n hx hb dX5_saves_30 rfl (lv_at hl 1 rfl) ?_
      refine lv_iadd hx hb dX5_saves_31 ?_
      obtain ⟨hi2, hf⟩ := gd_o hf
      refine mr_ld3 X hH.1 hi2 dX5_saves_32 ?_
      obtain ⟨hi3, hf⟩ := gd_o hf
      refine mr_st3 X hI hH hi3 dX5_saves_33 (fun H locs hH => ?_)
      refine lv_iinc (v := x1 + 1) (lv' := [(1, .int (x1 + 1)), (0, .ref (ad 0))]) hx hb dX5_saves_34 hl (k := 1) rfl rfl (by decide) rfl (fun ls hl => ?_)
      refine lv_goto (tgt := 11) hx hb dX5_saves_37 (by decide) ?_
      exact ih _ _ _ _ _ hH _ (lv_sub hl [1, 0] rfl) hf
def f5_saves_0 (v1 : Nat → Int32) (v0 : Nat → Int32) (v3 : Nat → Int32) : Option ((Nat → Int32) × (Nat → Int32)) := if (v0 3) = 6 then (f5_saves_11 v1 fu 0 v0 v3) else (f5_saves_50 v1 v0 v3)
set_option maxRecDepth 100000 in
set_option maxHeartbeats 4000000 in
theorem w5_saves_0 {p : Program} {l : Launch} {e : Env} {s : State} {m : MethodId} {args : Array Value} {below : List Frame} {meth : Method} {c : Code} {D : va_G} {cI cZ : ClassId} {ad : Nat → Nat} {v0 v1 v2 v3 v4 v5 v6 v7 v8 : Nat → Int32} (X : mX D cI cZ p s m args meth c cX5_saves 2 none) (hI : mInj ad) {t : (Nat → Int32) × (Nat → Int32)}  {H : Heap} {locs : List Loc} (hH : mH D cI cZ ad v0 v1 v2 v3 v4 v5 v6 v7 v8 s H locs) {ls : Array Slot} (hl : lv_has ls 2 [(0, .ref (ad 0))]) (hf : f5_saves_0 v1 v0 v3 = some t) : W p l e rm5_saves s m args below meth c H locs 0 0 (MQ below (va_Qv (fun (_ : Unit) => True) (fun _ t9 => mB D cI cZ ad t.1 v1 v2 t.2 v4 v5 v6 v7 v8 t9) (mA ad s.heap.size)) args s 0 0 (mA ad s.heap.size)) (F0 m 0 ls []) := by
  obtain ⟨⟨hx, hb, hml, hown, hts⟩, hr, hlk, hK⟩ := id X
  replace hf : (if (v0 3) = 6 then (f5_saves_11 v1 fu 0 v0 v3) else (f5_saves_50 v1 v0 v3)) = some t := hf
  refine lv_aload_n hx hb dX5_saves_0 rfl (lv_at hl 0 rfl) ?_
  refine mr_get X hH.1 (k := 3) (v := .int (v0 3)) (by decide) gfX5_47 rfl dX5_saves_1 ?_
  refine lv_bipush (v := 6) hx hb dX5_saves_4 (by decide) ?_
  refine lv_icmp_ne (tgt := 50) hx hb dX5_saves_6 (by decide) (fun c1 => ?_) (fun c1 => ?_)
  · have hf := it_f c1 hf
    exact w5_saves_50 X hI hH (lv_sub hl [0] rfl) hf
  · have hf := it_t c1 hf
    refine lv_iconst (v := 0) hx hb dX5_saves_9 (by decide) ?_
    refine lv_istore_n (lv' := [(1, .int 0), (0, .ref (ad 0))]) hx hb dX5_saves_10 rfl hl (by decide) rfl (fun ls hl => ?_)
    exact w5_saves_11 X hI _ _ _ _ _ _ hH _ (lv_sub hl [1, 0] rfl) hf
set_option maxRecDepth 100000 in
set_option maxHeartbeats 4000000 in
theorem c5_saves (l : Launch) {D : va_G} {cI cZ : ClassId} {ad : Nat → Nat} {v0 v1 v2 v3 v4 v5 v6 v7 v8 : Nat → Int32} (hI : mInj ad) (sz : Nat) {t : (Nat → Int32) × (Nat → Int32)} (hf : f5_saves_0 v1 v0 v3 = some t) : Met l yX5_saves uX5_saves rm5_saves (va_Pc [.ref (ad 0)] (fun U => U.heap.size = sz ∧ mB D cI cZ ad v0 v1 v2 v3 v4 v5 v6 v7 v8 U)) (va_Qv (fun (_ : Unit) => True) (fun _ t9 => mB D cI cZ ad t.1 v1 v2 t.2 v4 v5 v6 v7 v8 t9) (mA ad sz)) 0 0 (mA ad sz) := by
  refine Met.ofW (cc := cX5_saves) (maxL := 2) (ret := none) (by decide) rfl ?_
  intro p e s m args below meth c s₁ B hml hv
  obtain ⟨rfl, hsz, hP, hK⟩ := hv
  subst hsz
  have X : mX D cI cZ p s m ([.ref (ad 0)] : List Value).toArray meth c cX5_saves 2 none := ⟨⟨B.exec, B.bytes, hml, findClass_of_methodNamed B.named, fun w h => atoms_spec (ws := uX5_saves) B.pre w (List.mem_cons_of_mem _ h)⟩, B.returns, B.notSynchronized, hK⟩
  have hl := lv_entry ([.ref (ad 0)]) (n := 2) (Nat.le_of_ble_eq_true rfl)
  rw [lg_entry_eq]
  generalize (lg_sl ([.ref (ad 0)]) ++ List.replicate (2 - (lg_sl ([.ref (ad 0)])).length) Slot.unset).toArray = ls at hl ⊢
  have hl : lv_has ls 2 [(0, .ref (ad 0))] := hl
  exact w5_saves_0 X hI ⟨hP, va_S.rf⟩ (lv_sub hl [0] rfl) hf
set_option maxRecDepth 100000 in
set_option maxHeartbeats 4000000 in
theorem k5_saves {p : Program} {l : Launch} {e : Env} {R : Room} {s : State} {m : MethodId} {args : Array Value} {below : List Frame} {meth : Method} {c : Code} {cc : ByteArray} {nL : Nat} {ret : Option FieldType} {D : va_G} {cI cZ : ClassId} {ad : Nat → Nat} {v0 v1 v2 v3 v4 v5 v6 v7 v8 : Nat → Int32} {H : Heap} {locs : List Loc} {cells slots : Nat} {Q : State → Prop} {pc : Nat} {ls : Array Slot} {rest : List Value} (X : mX D cI cZ p s m args meth c cc nL ret) (hI : mInj ad) (hH : mH D cI cZ ad v0 v1 v2 v3 v4 v5 v6 v7 v8 s H locs) (hls : ls.size = nL) {index : Nat} (hG : GoodIn gw (wsV RX5 index RX5 yX5_saves uX5_saves)) (hR : rm5_saves.frames + 1 ≤ R.frames ∧ 8 + (2 + 11) + rm5_saves.locals ≤ R.locals) {t : (Nat → Int32) × (Nat → Int32)} (hf : f5_saves_0 v1 v0 v3 = some t) (hrest : (rest.map fun v => v.category).sum ≤ 8) (hdg : decode cc pc = .ok (.invokevirtual index, 3)) (hc : cells ≤ R.cells ∧ slots ≤ R.slots) (kk : ∀ (H1 : Heap) (locs1 : List Loc), mH D cI cZ ad t.1 v1 v2 t.2 v4 v5 v6 v7 v8 s H1 locs1 → W p l e R s m args below meth c H1 locs1 cells slots Q (F0 m (pc + 3) ls (rest))) : W p l e R s m args below meth c H locs cells slots Q (F0 m pc ls (.ref (ad 0) :: rest)) := by
  have hA : ∀ q, mA ad H.size q → mA ad s.heap.size q := fun q h => h.elim Or.inl (fun h => Or.inr (Nat.le_trans hH.2.1 h))
  refine va_callv (va_runV (As := []) (rest := rest) X.1 (c5_saves l hI H.size hf) (cwV 0 X.1.2.2.2.2 hG rfl rfl rfl (by decide +kernel) hR) ⟨mBs_bl, va_recv X.2.2.2 hH.1 (ci := 5) (q0 := 0) rfl rfl, fun U hU hW => ⟨rfl, by rw [hU], by rw [hU]; exact hH.1, va_K.moved hW.alike X.2.2.2⟩⟩ rfl rfl hls rfl (lv_room hrest) hdg hc) hH.2 (fun q _ h => hA q h) hA (fun u t9 H1 locs1 ht hvm hw hB hz1 hk1 hS => ?_)
  exact kk H1 locs1 ⟨by rw [← ht]; exact hB.1, hS⟩
/-! OreRailwayModel.putAside()V -/
def rm5_putAside : Room := { frames := 0, cells := 0, slots := 0, locals := 0 }
def f5_putAside_2 (v1 : Nat → Int32) : Nat → Int32 → (Nat → Int32) → Option ((Nat → Int32))
  | 0, _, _ => none
  | n + 1, x1, v2 => if 171 ≤ x1 then (some (v2)) else (gd x1 171 (gd x1 171 ((f5_putAside_2 v1 n) (x1 + 1) (upd v2 (Int32.toNatClampNeg x1) (v1 (Int32.toNatClampNeg x1))))))
set_option maxRecDepth 100000 in
set_option maxHeartbeats 4000000 in
theorem w5_putAside_2 {p : Program} {l : Launch} {e : Env} {s : State} {m : MethodId} {args : Array Value} {below : List Frame} {meth : Method} {c : Code} {D : va_G} {cI cZ : ClassId} {ad : Nat → Nat} {v0 v1 v3 v4 v5 v6 v7 v8 : Nat → Int32} (X : mX D cI cZ p s m args meth c cX5_putAside 2 none) (hI : mInj ad) {t : (Nat → Int32)} :
    ∀ (n : Nat) (x1 : Int32) (v2 : Nat → Int32) (H : Heap) (locs : List Loc), mH D cI cZ ad v0 v1 v2 v3 v4 v5 v6 v7 v8 s H locs → ∀ (ls : Array Slot), lv_has ls 2 [(0, .ref (ad 0)), (1, .int x1)] → f5_putAside_2 v1 n x1 v2 = some t → W p l e rm5_putAside s m args below meth c H locs 0 0 (MQ below (va_Qv (fun (_ : Unit) => True) (fun _ t9 => mB D cI cZ ad v0 v1 t v3 v4 v5 v6 v7 v8 t9) (mA ad s.heap.size)) args s 0 0 (mA ad s.heap.size)) (F0 m 2 ls []) := by
  obtain ⟨⟨hx, hb, hml, hown, hts⟩, hr, hlk, hK⟩ := id X
  intro n
  induction n with
  | zero =>
    intro x1 v2 H locs hH ls hl hf
    cases hf
  | succ n ih =>
    intro x1 v2 H locs hH ls hl hf
    replace hf : (if 171 ≤ x1 then (some (v2)) else (gd x1 171 (gd x1 171 ((f5_putAside_2 v1 n) (x1 + 1) (upd v2 (Int32.toNatClampNeg x1) (v1 (Int32.toNatClampNeg x1))))))) = some t := hf
    refine lv_iload_n hx hb dX5_putAside_2 rfl (lv_at hl 1 rfl) ?_
    refine lv_sipush (v := 171) hx hb dX5_putAside_3 (by decide) ?_
    refine lv_icmp_ge (tgt := 27) hx hb dX5_putAside_6 (by decide) (fun c1 => ?_) (fun c1 => ?_)
    · have hf := it_t c1 hf
      obtain rfl := so_i hf
      exact mr_vw X hH rfl dX5_putAside_27
    · have hf := it_f c1 hf
      refine lv_aload_n hx hb dX5_putAside_9 rfl (lv_at hl 0 rfl) ?_
      refine mr_get X hH.1 (k := 1) (v := .ref (ad 2)) (by decide) gfX5_13 rfl dX5_putAside_10 ?_
      refine lv_iload_n hx hb dX5_putAside_13 rfl (lv_at hl 1 rfl) ?_
      refine lv_aload_n hx hb dX5_putAside_14 rfl (lv_at hl 0 rfl) ?_
      refine mr_get X hH.1 (k := 0) (v := .ref (ad 1)) (by decide) gfX5_7 rfl dX5_putAside_15 ?_
      refine lv_iload_n hx hb dX5_putAside_18 rfl (lv_at hl 1 rfl) ?_
      obtain ⟨hi2, hf⟩ := gd_o hf
      refine mr_ld1 X hH.1 hi2 dX5_putAside_19 ?_
      obtain ⟨hi3, hf⟩ := gd_o hf
      refine mr_st2 X hI hH hi3 dX5_putAside_20 (fun H locs hH => ?_)
      refine lv_iinc (v := x1 + 1) (lv' := [(1, .int (x1 + 1)), (0, .ref (ad 0))]) hx hb dX5_putAside_21 hl (k := 1) rfl rfl (by decide) rfl (fun ls hl => ?_)
      refine lv_goto (tgt := 2) hx hb dX5_putAside_24 (by decide) ?_
      exact ih _ _ _ _ hH _ (lv_sub hl [1, 0] rfl) hf
def f5_putAside_0 (v1 : Nat → Int32) (v2 : Nat → Int32) : Option ((Nat → Int32)) := f5_putAside_2 v1 fu 0 v2
set_option maxRecDepth 100000 in
set_option maxHeartbeats 4000000 in
theorem w5_putAside_0 {p : Program} {l : Launch} {e : Env} {s : State} {m : MethodId} {args : Array Value} {below : List Frame} {meth : Method} {c : Code} {D : va_G} {cI cZ : ClassId} {ad : Nat → Nat} {v0 v1 v2 v3 v4 v5 v6 v7 v8 : Nat → Int32} (X : mX D cI cZ p s m args meth c cX5_putAside 2 none) (hI : mInj ad) {t : (Nat → Int32)}  {H : Heap} {locs : List Loc} (hH : mH D cI cZ ad v0 v1 v2 v3 v4 v5 v6 v7 v8 s H locs) {ls : Array Slot} (hl : lv_has ls 2 [(0, .ref (ad 0))]) (hf : f5_putAside_0 v1 v2 = some t) : W p l e rm5_putAside s m args below meth c H locs 0 0 (MQ below (va_Qv (fun (_ : Unit) => True) (fun _ t9 => mB D cI cZ ad v0 v1 t v3 v4 v5 v6 v7 v8 t9) (mA ad s.heap.size)) args s 0 0 (mA ad s.heap.size)) (F0 m 0 ls []) := by
  obtain ⟨⟨hx, hb, hml, hown, hts⟩, hr, hlk, hK⟩ := id X
  replace hf : (f5_putAside_2 v1 fu 0 v2) = some t := hf
  refine lv_iconst (v := 0) hx hb dX5_putAside_0 (by decide) ?_
  refine lv_istore_n (lv' := [(1, .int 0), (0, .ref (ad 0))]) hx hb dX5_putAside_1 rfl hl (by decide) rfl (fun ls hl => ?_)
  exact w5_putAside_2 X hI _ _ _ _ _ hH _ (lv_sub hl [1, 0] rfl) hf
set_option maxRecDepth 100000 in
set_option maxHeartbeats 4000000 in
theorem c5_putAside (l : Launch) {D : va_G} {cI cZ : ClassId} {ad : Nat → Nat} {v0 v1 v2 v3 v4 v5 v6 v7 v8 : Nat → Int32} (hI : mInj ad) (sz : Nat) {t : (Nat → Int32)} (hf : f5_putAside_0 v1 v2 = some t) : Met l yX5_putAside uX5_putAside rm5_putAside (va_Pc [.ref (ad 0)] (fun U => U.heap.size = sz ∧ mB D cI cZ ad v0 v1 v2 v3 v4 v5 v6 v7 v8 U)) (va_Qv (fun (_ : Unit) => True) (fun _ t9 => mB D cI cZ ad v0 v1 t v3 v4 v5 v6 v7 v8 t9) (mA ad sz)) 0 0 (mA ad sz) := by
  refine Met.ofW (cc := cX5_putAside) (maxL := 2) (ret := none) (by decide) rfl ?_
  intro p e s m args below meth c s₁ B hml hv
  obtain ⟨rfl, hsz, hP, hK⟩ := hv
  subst hsz
  have X : mX D cI cZ p s m ([.ref (ad 0)] : List Value).toArray meth c cX5_putAside 2 none := ⟨⟨B.exec, B.bytes, hml, findClass_of_methodNamed B.named, fun w h => atoms_spec (ws := uX5_putAside) B.pre w (List.mem_cons_of_mem _ h)⟩, B.returns, B.notSynchronized, hK⟩
  have hl := lv_entry ([.ref (ad 0)]) (n := 2) (Nat.le_of_ble_eq_true rfl)
  rw [lg_entry_eq]
  generalize (lg_sl ([.ref (ad 0)]) ++ List.replicate (2 - (lg_sl ([.ref (ad 0)])).length) Slot.unset).toArray = ls at hl ⊢
  have hl : lv_has ls 2 [(0, .ref (ad 0))] := hl
  exact w5_putAside_0 X hI ⟨hP, va_S.rf⟩ (lv_sub hl [0] rfl) hf
set_option maxRecDepth 100000 in
set_option maxHeartbeats 4000000 in
theorem k5_putAside {p : Program} {l : Launch} {e : Env} {R : Room} {s : State} {m : MethodId} {args : Array Value} {below : List Frame} {meth : Method} {c : Code} {cc : ByteArray} {nL : Nat} {ret : Option FieldType} {D : va_G} {cI cZ : ClassId} {ad : Nat → Nat} {v0 v1 v2 v3 v4 v5 v6 v7 v8 : Nat → Int32} {H : Heap} {locs : List Loc} {cells slots : Nat} {Q : State → Prop} {pc : Nat} {ls : Array Slot} {rest : List Value} (X : mX D cI cZ p s m args meth c cc nL ret) (hI : mInj ad) (hH : mH D cI cZ ad v0 v1 v2 v3 v4 v5 v6 v7 v8 s H locs) (hls : ls.size = nL) {index : Nat} (hG : GoodIn gw (wsV RX5 index RX5 yX5_putAside uX5_putAside)) (hR : rm5_putAside.frames + 1 ≤ R.frames ∧ 8 + (2 + 11) + rm5_putAside.locals ≤ R.locals) {t : (Nat → Int32)} (hf : f5_putAside_0 v1 v2 = some t) (hrest : (rest.map fun v => v.category).sum ≤ 8) (hdg : decode cc pc = .ok (.invokevirtual index, 3)) (hc : cells ≤ R.cells ∧ slots ≤ R.slots) (kk : ∀ (H1 : Heap) (locs1 : List Loc), mH D cI cZ ad v0 v1 t v3 v4 v5 v6 v7 v8 s H1 locs1 → W p l e R s m args below meth c H1 locs1 cells slots Q (F0 m (pc + 3) ls (rest))) : W p l e R s m args below meth c H locs cells slots Q (F0 m pc ls (.ref (ad 0) :: rest)) := by
  have hA : ∀ q, mA ad H.size q → mA ad s.heap.size q := fun q h => h.elim Or.inl (fun h => Or.inr (Nat.le_trans hH.2.1 h))
  refine va_callv (va_runV (As := []) (rest := rest) X.1 (c5_putAside l hI H.size hf) (cwV 0 X.1.2.2.2.2 hG rfl rfl rfl (by decide +kernel) hR) ⟨mBs_bl, va_recv X.2.2.2 hH.1 (ci := 5) (q0 := 0) rfl rfl, fun U hU hW => ⟨rfl, by rw [hU], by rw [hU]; exact hH.1, va_K.moved hW.alike X.2.2.2⟩⟩ rfl rfl hls rfl (lv_room hrest) hdg hc) hH.2 (fun q _ h => hA q h) hA (fun u t9 H1 locs1 ht hvm hw hB hz1 hk1 hS => ?_)
  exact kk H1 locs1 ⟨by rw [← ht]; exact hB.1, hS⟩
/-! OreRailwayModel.putBack()V -/
def rm5_putBack : Room := { frames := 0, cells := 0, slots := 0, locals := 0 }
def f5_putBack_2 (v2 : Nat → Int32) : Nat → Int32 → (Nat → Int32) → Option ((Nat → Int32))
  | 0, _, _ => none
  | n + 1, x1, v1 => if 171 ≤ x1 then (some (v1)) else (gd x1 171 (gd x1 171 ((f5_putBack_2 v2 n) (x1 + 1) (upd v1 (Int32.toNatClampNeg x1) (v2 (Int32.toNatClampNeg x1))))))
set_option maxRecDepth 100000 in
set_option maxHeartbeats 4000000 in
theorem w5_putBack_2 {p : Program} {l : Launch} {e : Env} {s : State} {m : MethodId} {args : Array Value} {below : List Frame} {meth : Method} {c : Code} {D : va_G} {cI cZ : ClassId} {ad : Nat → Nat} {v0 v2 v3 v4 v5 v6 v7 v8 : Nat → Int32} (X : mX D cI cZ p s m args meth c cX5_putBack 2 none) (hI : mInj ad) {t : (Nat → Int32)} :
    ∀ (n : Nat) (x1 : Int32) (v1 : Nat → Int32) (H : Heap) (locs : List Loc), mH D cI cZ ad v0 v1 v2 v3 v4 v5 v6 v7 v8 s H locs → ∀ (ls : Array Slot), lv_has ls 2 [(0, .ref (ad 0)), (1, .int x1)] → f5_putBack_2 v2 n x1 v1 = some t → W p l e rm5_putBack s m args below meth c H locs 0 0 (MQ below (va_Qv (fun (_ : Unit) => True) (fun _ t9 => mB D cI cZ ad v0 t v2 v3 v4 v5 v6 v7 v8 t9) (mA ad s.heap.size)) args s 0 0 (mA ad s.heap.size)) (F0 m 2 ls []) := by
  obtain ⟨⟨hx, hb, hml, hown, hts⟩, hr, hlk, hK⟩ := id X
  intro n
  induction n with
  | zero =>
    intro x1 v1 H locs hH ls hl hf
    cases hf
  | succ n ih =>
    intro x1 v1 H locs hH ls hl hf
    replace hf : (if 171 ≤ x1 then (some (v1)) else (gd x1 171 (gd x1 171 ((f5_putBack_2 v2 n) (x1 + 1) (upd v1 (Int32.toNatClampNeg x1) (v2 (Int32.toNatClampNeg x1))))))) = some t := hf
    refine lv_iload_n hx hb dX5_putBack_2 rfl (lv_at hl 1 rfl) ?_
    refine lv_sipush (v := 171) hx hb dX5_putBack_3 (by decide) ?_
    refine lv_icmp_ge (tgt := 27) hx hb dX5_putBack_6 (by decide) (fun c1 => ?_) (fun c1 => ?_)
    · have hf := it_t c1 hf
      obtain rfl := so_i hf
      exact mr_vw X hH rfl dX5_putBack_27
    · have hf := it_f c1 hf
      refine lv_aload_n hx hb dX5_putBack_9 rfl (lv_at hl 0 rfl) ?_
      refine mr_get X hH.1 (k := 0) (v := .ref (ad 1)) (by decide) gfX5_7 rfl dX5_putBack_10 ?_
      refine lv_iload_n hx hb dX5_putBack_13 rfl (lv_at hl 1 rfl) ?_
      refine lv_aload_n hx hb dX5_putBack_14 rfl (lv_at hl 0 rfl) ?_
      refine mr_get X hH.1 (k := 1) (v := .ref (ad 2)) (by decide) gfX5_13 rfl dX5_putBack_15 ?_
      refine lv_iload_n hx hb dX5_putBack_18 rfl (lv_at hl 1 rfl) ?_
      obtain ⟨hi2, hf⟩ := gd_o hf
      refine mr_ld2 X hH.1 hi2 dX5_putBack_19 ?_
      obtain ⟨hi3, hf⟩ := gd_o hf
      refine mr_st1 X hI hH hi3 dX5_putBack_20 (fun H locs hH => ?_)
      refine lv_iinc (v := x1 + 1) (lv' := [(1, .int (x1 + 1)), (0, .ref (ad 0))]) hx hb dX5_putBack_21 hl (k := 1) rfl rfl (by decide) rfl (fun ls hl => ?_)
      refine lv_goto (tgt := 2) hx hb dX5_putBack_24 (by decide) ?_
      exact ih _ _ _ _ hH _ (lv_sub hl [1, 0] rfl) hf
def f5_putBack_0 (v2 : Nat → Int32) (v1 : Nat → Int32) : Option ((Nat → Int32)) := f5_putBack_2 v2 fu 0 v1
set_option maxRecDepth 100000 in
set_option maxHeartbeats 4000000 in
theorem w5_putBack_0 {p : Program} {l : Launch} {e : Env} {s : State} {m : MethodId} {args : Array Value} {below : List Frame} {meth : Method} {c : Code} {D : va_G} {cI cZ : ClassId} {ad : Nat → Nat} {v0 v1 v2 v3 v4 v5 v6 v7 v8 : Nat → Int32} (X : mX D cI cZ p s m args meth c cX5_putBack 2 none) (hI : mInj ad) {t : (Nat → Int32)}  {H : Heap} {locs : List Loc} (hH : mH D cI cZ ad v0 v1 v2 v3 v4 v5 v6 v7 v8 s H locs) {ls : Array Slot} (hl : lv_has ls 2 [(0, .ref (ad 0))]) (hf : f5_putBack_0 v2 v1 = some t) : W p l e rm5_putBack s m args below meth c H locs 0 0 (MQ below (va_Qv (fun (_ : Unit) => True) (fun _ t9 => mB D cI cZ ad v0 t v2 v3 v4 v5 v6 v7 v8 t9) (mA ad s.heap.size)) args s 0 0 (mA ad s.heap.size)) (F0 m 0 ls []) := by
  obtain ⟨⟨hx, hb, hml, hown, hts⟩, hr, hlk, hK⟩ := id X
  replace hf : (f5_putBack_2 v2 fu 0 v1) = some t := hf
  refine lv_iconst (v := 0) hx hb dX5_putBack_0 (by decide) ?_
  refine lv_istore_n (lv' := [(1, .int 0), (0, .ref (ad 0))]) hx hb dX5_putBack_1 rfl hl (by decide) rfl (fun ls hl => ?_)
  exact w5_putBack_2 X hI _ _ _ _ _ hH _ (lv_sub hl [1, 0] rfl) hf
set_option maxRecDepth 100000 in
set_option maxHeartbeats 4000000 in
theorem c5_putBack (l : Launch) {D : va_G} {cI cZ : ClassId} {ad : Nat → Nat} {v0 v1 v2 v3 v4 v5 v6 v7 v8 : Nat → Int32} (hI : mInj ad) (sz : Nat) {t : (Nat → Int32)} (hf : f5_putBack_0 v2 v1 = some t) : Met l yX5_putBack uX5_putBack rm5_putBack (va_Pc [.ref (ad 0)] (fun U => U.heap.size = sz ∧ mB D cI cZ ad v0 v1 v2 v3 v4 v5 v6 v7 v8 U)) (va_Qv (fun (_ : Unit) => True) (fun _ t9 => mB D cI cZ ad v0 t v2 v3 v4 v5 v6 v7 v8 t9) (mA ad sz)) 0 0 (mA ad sz) := by
  refine Met.ofW (cc := cX5_putBack) (maxL := 2) (ret := none) (by decide) rfl ?_
  intro p e s m args below meth c s₁ B hml hv
  obtain ⟨rfl, hsz, hP, hK⟩ := hv
  subst hsz
  have X : mX D cI cZ p s m ([.ref (ad 0)] : List Value).toArray meth c cX5_putBack 2 none := ⟨⟨B.exec, B.bytes, hml, findClass_of_methodNamed B.named, fun w h => atoms_spec (ws := uX5_putBack) B.pre w (List.mem_cons_of_mem _ h)⟩, B.returns, B.notSynchronized, hK⟩
  have hl := lv_entry ([.ref (ad 0)]) (n := 2) (Nat.le_of_ble_eq_true rfl)
  rw [lg_entry_eq]
  generalize (lg_sl ([.ref (ad 0)]) ++ List.replicate (2 - (lg_sl ([.ref (ad 0)])).length) Slot.unset).toArray = ls at hl ⊢
  have hl : lv_has ls 2 [(0, .ref (ad 0))] := hl
  exact w5_putBack_0 X hI ⟨hP, va_S.rf⟩ (lv_sub hl [0] rfl) hf
set_option maxRecDepth 100000 in
set_option maxHeartbeats 4000000 in
theorem k5_putBack {p : Program} {l : Launch} {e : Env} {R : Room} {s : State} {m : MethodId} {args : Array Value} {below : List Frame} {meth : Method} {c : Code} {cc : ByteArray} {nL : Nat} {ret : Option FieldType} {D : va_G} {cI cZ : ClassId} {ad : Nat → Nat} {v0 v1 v2 v3 v4 v5 v6 v7 v8 : Nat → Int32} {H : Heap} {locs : List Loc} {cells slots : Nat} {Q : State → Prop} {pc : Nat} {ls : Array Slot} {rest : List Value} (X : mX D cI cZ p s m args meth c cc nL ret) (hI : mInj ad) (hH : mH D cI cZ ad v0 v1 v2 v3 v4 v5 v6 v7 v8 s H locs) (hls : ls.size = nL) {index : Nat} (hG : GoodIn gw (wsV RX5 index RX5 yX5_putBack uX5_putBack)) (hR : rm5_putBack.frames + 1 ≤ R.frames ∧ 8 + (2 + 11) + rm5_putBack.locals ≤ R.locals) {t : (Nat → Int32)} (hf : f5_putBack_0 v2 v1 = some t) (hrest : (rest.map fun v => v.category).sum ≤ 8) (hdg : decode cc pc = .ok (.invokevirtual index, 3)) (hc : cells ≤ R.cells ∧ slots ≤ R.slots) (kk : ∀ (H1 : Heap) (locs1 : List Loc), mH D cI cZ ad v0 t v2 v3 v4 v5 v6 v7 v8 s H1 locs1 → W p l e R s m args below meth c H1 locs1 cells slots Q (F0 m (pc + 3) ls (rest))) : W p l e R s m args below meth c H locs cells slots Q (F0 m pc ls (.ref (ad 0) :: rest)) := by
  have hA : ∀ q, mA ad H.size q → mA ad s.heap.size q := fun q h => h.elim Or.inl (fun h => Or.inr (Nat.le_trans hH.2.1 h))
  refine va_callv (va_runV (As := []) (rest := rest) X.1 (c5_putBack l hI H.size hf) (cwV 0 X.1.2.2.2.2 hG rfl rfl rfl (by decide +kernel) hR) ⟨mBs_bl, va_recv X.2.2.2 hH.1 (ci := 5) (q0 := 0) rfl rfl, fun U hU hW => ⟨rfl, by rw [hU], by rw [hU]; exact hH.1, va_K.moved hW.alike X.2.2.2⟩⟩ rfl rfl hls rfl (lv_room hrest) hdg hc) hH.2 (fun q _ h => hA q h) hA (fun u t9 H1 locs1 ht hvm hw hB hz1 hk1 hS => ?_)
  exact kk H1 locs1 ⟨by rw [← ht]; exact hB.1, hS⟩
/-! OreRailwayModel.grade(II)I -/
def rm5_grade : Room := { frames := 1, cells := 0, slots := 0, locals := 22 }
def f5_grade_30 (x1 : Int32) (x2 : Int32) (y0 : Int32) (v0 : Nat → Int32) (v1 : Nat → Int32) (v3 : Nat → Int32) : Option (Int32 × (Nat → Int32) × (Nat → Int32) × (Nat → Int32)) := Option.bind (f5_refused_0 y0 v0) (fun t1 => if t1.1 = 0 then (Option.bind (f5_saves_0 v1 t1.2 v3) (fun t3 => gd (0 + x1) 171 (gd (0 + x1) 171 (some (v1 (Int32.toNatClampNeg (0 + x1)), t3.1, upd v1 (Int32.toNatClampNeg (0 + x1)) x2, t3.2))))) else (some (0, t1.2, v1, v3)))
set_option maxRecDepth 100000 in
set_option maxHeartbeats 4000000 in
theorem w5_grade_30 {p : Program} {l : Launch} {e : Env} {s : State} {m : MethodId} {args : Array Value} {below : List Frame} {meth : Method} {c : Code} {D : va_G} {cI cZ : ClassId} {ad : Nat → Nat} {v0 v1 v2 v3 v4 v5 v6 v7 v8 : Nat → Int32} (X : mX D cI cZ p s m args meth c cX5_grade 4 (some .int)) (hI : mInj ad) {x1 : Int32} {x2 : Int32} {y0 : Int32} {t : Int32 × (Nat → Int32) × (Nat → Int32) × (Nat → Int32)}  {H : Heap} {locs : List Loc} (hH : mH D cI cZ ad v0 v1 v2 v3 v4 v5 v6 v7 v8 s H locs) {ls : Array Slot} (hl : lv_has ls 4 [(0, .ref (ad 0)), (1, .int x1), (2, .int x2)]) (hf : f5_grade_30 x1 x2 y0 v0 v1 v3 = some t) : W p l e rm5_grade s m args below meth c H locs 0 0 (MQ below (va_Qi (fun (r9 : Int32) (_ : Unit) => r9 = t.1) (fun _ t9 => mB D cI cZ ad t.2.1 t.2.2.1 v2 t.2.2.2 v4 v5 v6 v7 v8 t9) (mA ad s.heap.size)) args s 0 0 (mA ad s.heap.size)) (F0 m 30 ls [.int y0, .ref (ad 0)]) := by
  obtain ⟨⟨hx, hb, hml, hown, hts⟩, hr, hlk, hK⟩ := id X
  replace hf : (Option.bind (f5_refused_0 y0 v0) (fun t1 => if t1.1 = 0 then (Option.bind (f5_saves_0 v1 t1.2 v3) (fun t3 => gd (0 + x1) 171 (gd (0 + x1) 171 (some (v1 (Int32.toNatClampNeg (0 + x1)), t3.1, upd v1 (Int32.toNatClampNeg (0 + x1)) x2, t3.2))))) else (some (0, t1.2, v1, v3)))) = some t := hf
  obtain ⟨t1, ht1, hf⟩ := bd_o hf
  refine k5_refused X hI hH hl.1 qX5_50 ⟨Nat.le_of_ble_eq_true rfl, Nat.le_of_ble_eq_true rfl⟩ ht1 (Nat.le_of_ble_eq_true rfl) dX5_grade_30 ⟨Nat.zero_le _, Nat.zero_le _⟩ (fun H locs hH => ?_)
  refine lv_if_eq (tgt := 38) hx hb dX5_grade_33 (by decide) (fun c2 => ?_) (fun c2 => ?_)
  · have hf := it_t c2 hf
    refine lv_aload_n hx hb dX5_grade_38 rfl (lv_at hl 0 rfl) ?_
    obtain ⟨t3, ht3, hf⟩ := bd_o hf
    refine k5_saves X hI hH hl.1 qX5_54 ⟨Nat.le_of_ble_eq_true rfl, Nat.le_of_ble_eq_true rfl⟩ ht3 (Nat.le_of_ble_eq_true rfl) dX5_grade_39 ⟨Nat.zero_le _, Nat.zero_le _⟩ (fun H locs hH => ?_)
    refine lv_aload_n hx hb dX5_grade_42 rfl (lv_at hl 0 rfl) ?_
    refine mr_get X hH.1 (k := 0) (v := .ref (ad 1)) (by decide) gfX5_7 rfl dX5_grade_43 ?_
    refine lv_iconst (v := 0) hx hb dX5_grade_46 (by decide) ?_
    refine lv_iload_n hx hb dX5_grade_47 rfl (lv_at hl 1 rfl) ?_
    refine lv_iadd hx hb dX5_grade_48 ?_
    obtain ⟨hi4, hf⟩ := gd_o hf
    refine mr_ld1 X hH.1 hi4 dX5_grade_49 ?_
    refine lv_istore_n (lv' := [(3, .int (v1 (Int32.toNatClampNeg (0 + x1)))), (0, .ref (ad 0)), (1, .int x1), (2, .int x2)]) hx hb dX5_grade_50 rfl hl (by decide) rfl (fun ls hl => ?_)
    refine lv_aload_n hx hb dX5_grade_51 rfl (lv_at hl 1 rfl) ?_
    refine mr_get X hH.1 (k := 0) (v := .ref (ad 1)) (by decide) gfX5_7 rfl dX5_grade_52 ?_
    refine lv_iconst (v := 0) hx hb dX5_grade_55 (by decide) ?_
    refine lv_iload_n hx hb dX5_grade_56 rfl (lv_at hl 2 rfl) ?_
    refine lv_iadd hx hb dX5_grade_57 ?_
    refine lv_iload_n hx hb dX5_grade_58 rfl (lv_at hl 3 rfl) ?_
    obtain ⟨hi5, hf⟩ := gd_o hf
    refine mr_st1 X hI hH hi5 dX5_grade_59 (fun H locs hH => ?_)
    refine lv_iload_n hx hb dX5_grade_60 rfl (lv_at hl 0 rfl) ?_
    obtain rfl := so_i hf
    exact mr_iw X hH rfl dX5_grade_61
  · have hf := it_f c2 hf
    refine lv_iconst (v := 0) hx hb dX5_grade_36 (by decide) ?_
    obtain rfl := so_i hf
    exact mr_iw X hH rfl dX5_grade_37
def f5_grade_0 (x1 : Int32) (x2 : Int32) (v0 : Nat → Int32) (v1 : Nat → Int32) (v3 : Nat → Int32) : Option (Int32 × (Nat → Int32) × (Nat → Int32) × (Nat → Int32)) := Option.bind (f5_in_0 x1 0 29) (fun t1 => if t1 = 0 then (f5_grade_30 x1 x2 1 v0 v1 v3) else (Option.bind (f5_in_0 x2 0 9) (fun t3 => if t3 = 0 then (f5_grade_30 x1 x2 2 v0 v1 v3) else (f5_grade_30 x1 x2 0 v0 v1 v3))))
set_option maxRecDepth 100000 in
set_option maxHeartbeats 4000000 in
theorem w5_grade_0 {p : Program} {l : Launch} {e : Env} {s : State} {m : MethodId} {args : Array Value} {below : List Frame} {meth : Method} {c : Code} {D : va_G} {cI cZ : ClassId} {ad : Nat → Nat} {v0 v1 v2 v3 v4 v5 v6 v7 v8 : Nat → Int32} (X : mX D cI cZ p s m args meth c cX5_grade 4 (some .int)) (hI : mInj ad) {x1 : Int32} {x2 : Int32} {t : Int32 × (Nat → Int32) × (Nat → Int32) × (Nat → Int32)}  {H : Heap} {locs : List Loc} (hH : mH D cI cZ ad v0 v1 v2 v3 v4 v5 v6 v7 v8 s H locs) {ls : Array Slot} (hl : lv_has ls 4 [(0, .ref (ad 0)), (1, .int x1), (2, .int x2)]) (hf : f5_grade_0 x1 x2 v0 v1 v3 = some t) : W p l e rm5_grade s m args below meth c H locs 0 0 (MQ below (va_Qi (fun (r9 : Int32) (_ : Unit) => r9 = t.1) (fun _ t9 => mB D cI cZ ad t.2.1 t.2.2.1 v2 t.2.2.2 v4 v5 v6 v7 v8 t9) (mA ad s.heap.size)) args s 0 0 (mA ad s.heap.size)) (F0 m 0 ls []) := by
  obtain ⟨⟨hx, hb, hml, hown, hts⟩, hr, hlk, hK⟩ := id X
  replace hf : (Option.bind (f5_in_0 x1 0 29) (fun t1 => if t1 = 0 then (f5_grade_30 x1 x2 1 v0 v1 v3) else (Option.bind (f5_in_0 x2 0 9) (fun t3 => if t3 = 0 then (f5_grade_30 x1 x2 2 v0 v1 v3) else (f5_grade_30 x1 x2 0 v0 v1 v3))))) = some t := hf
  refine lv_aload_n hx hb dX5_grade_0 rfl (lv_at hl 0 rfl) ?_
  refine lv_iload_n hx hb dX5_grade_1 rfl (lv_at hl 1 rfl) ?_
  refine lv_iconst (v := 0) hx hb dX5_grade_2 (by decide) ?_
  refine lv_bipush (v := 29) hx hb dX5_grade_3 (by decide) ?_
  obtain ⟨t1, ht1, hf⟩ := bd_o hf
  refine k5_in X.1 hl.1 qX5_39 ⟨Nat.le_of_ble_eq_true rfl, Nat.le_of_ble_eq_true rfl⟩ ht1 (Nat.le_of_ble_eq_true rfl) dX5_grade_5 ⟨Nat.zero_le _, Nat.zero_le _⟩ ?_
  refine lv_if_ne (tgt := 15) hx hb dX5_grade_8 (by decide) (fun c2 => ?_) (fun c2 => ?_)
  · have hf := it_f c2 hf
    refine lv_iload_n hx hb dX5_grade_15 rfl (lv_at hl 2 rfl) ?_
    refine lv_iconst (v := 0) hx hb dX5_grade_16 (by decide) ?_
    refine lv_bipush (v := 9) hx hb dX5_grade_17 (by decide) ?_
    obtain ⟨t3, ht3, hf⟩ := bd_o hf
    refine k5_in X.1 hl.1 qX5_39 ⟨Nat.le_of_ble_eq_true rfl, Nat.le_of_ble_eq_true rfl⟩ ht3 (Nat.le_of_ble_eq_true rfl) dX5_grade_19 ⟨Nat.zero_le _, Nat.zero_le _⟩ ?_
    refine lv_if_eq (tgt := 29) hx hb dX5_grade_22 (by decide) (fun c4 => ?_) (fun c4 => ?_)
    · have hf := it_t c4 hf
      refine lv_iconst (v := 2) hx hb dX5_grade_29 (by decide) ?_
      exact w5_grade_30 X hI hH (lv_sub hl [0, 1, 2] rfl) hf
    · have hf := it_f c4 hf
      refine lv_iconst (v := 0) hx hb dX5_grade_25 (by decide) ?_
      refine lv_goto (tgt := 30) hx hb dX5_grade_26 (by decide) ?_
      exact w5_grade_30 X hI hH (lv_sub hl [0, 1, 2] rfl) hf
  · have hf := it_t c2 hf
    refine lv_iconst (v := 1) hx hb dX5_grade_11 (by decide) ?_
    refine lv_goto (tgt := 30) hx hb dX5_grade_12 (by decide) ?_
    exact w5_grade_30 X hI hH (lv_sub hl [0, 1, 2] rfl) hf
set_option maxRecDepth 100000 in
set_option maxHeartbeats 4000000 in
theorem c5_grade (l : Launch) {D : va_G} {cI cZ : ClassId} {ad : Nat → Nat} {v0 v1 v2 v3 v4 v5 v6 v7 v8 : Nat → Int32} (hI : mInj ad) (sz : Nat) (x1 : Int32) (x2 : Int32) {t : Int32 × (Nat → Int32) × (Nat → Int32) × (Nat → Int32)} (hf : f5_grade_0 x1 x2 v0 v1 v3 = some t) : Met l yX5_grade uX5_grade rm5_grade (va_Pc [.ref (ad 0), .int x1, .int x2] (fun U => U.heap.size = sz ∧ mB D cI cZ ad v0 v1 v2 v3 v4 v5 v6 v7 v8 U)) (va_Qi (fun (r9 : Int32) (_ : Unit) => r9 = t.1) (fun _ t9 => mB D cI cZ ad t.2.1 t.2.2.1 v2 t.2.2.2 v4 v5 v6 v7 v8 t9) (mA ad sz)) 0 0 (mA ad sz) := by
  refine Met.ofW (cc := cX5_grade) (maxL := 4) (ret := (some .int)) (by decide) rfl ?_
  intro p e s m args below meth c s₁ B hml hv
  obtain ⟨rfl, hsz, hP, hK⟩ := hv
  subst hsz
  have X : mX D cI cZ p s m ([.ref (ad 0), .int x1, .int x2] : List Value).toArray meth c cX5_grade 4 (some .int) := ⟨⟨B.exec, B.bytes, hml, findClass_of_methodNamed B.named, fun w h => atoms_spec (ws := uX5_grade) B.pre w (List.mem_cons_of_mem _ h)⟩, B.returns, B.notSynchronized, hK⟩
  have hl := lv_entry ([.ref (ad 0), .int x1, .int x2]) (n := 4) (Nat.le_of_ble_eq_true rfl)
  rw [lg_entry_eq]
  generalize (lg_sl ([.ref (ad 0), .int x1, .int x2]) ++ List.replicate (4 - (lg_sl ([.ref (ad 0), .int x1, .int x2])).length) Slot.unset).toArray = ls at hl ⊢
  have hl : lv_has ls 4 [(0, .ref (ad 0)), (1, .int x1), (2, .int x2)] := hl
  exact w5_grade_0 X hI ⟨hP, va_S.rf⟩ (lv_sub hl [0, 1, 2] rfl) hf
set_option maxRecDepth 100000 in
set_option maxHeartbeats 4000000 in
theorem k5_grade {p : Program} {l : Launch} {e : Env} {R : Room} {s : State} {m : MethodId} {args : Array Value} {below : List Frame} {meth : Method} {c : Code} {cc : ByteArray} {nL : Nat} {ret : Option FieldType} {D : va_G} {cI cZ : ClassId} {ad : Nat → Nat} {v0 v1 v2 v3 v4 v5 v6 v7 v8 : Nat → Int32} {H : Heap} {locs : List Loc} {cells slots : Nat} {Q : State → Prop} {pc : Nat} {ls : Array Slot} {rest : List Value} (X : mX D cI cZ p s m args meth c cc nL ret) (hI : mInj ad) (hH : mH D cI cZ ad v0 v1 v2 v3 v4 v5 v6 v7 v8 s H locs) (hls : ls.size = nL) {index : Nat} (hG : GoodIn gw (wsV RX5 index RX5 yX5_grade uX5_grade)) (hR : rm5_grade.frames + 1 ≤ R.frames ∧ 8 + (4 + 11) + rm5_grade.locals ≤ R.locals) {x1 : Int32} {x2 : Int32} {t : Int32 × (Nat → Int32) × (Nat → Int32) × (Nat → Int32)} (hf : f5_grade_0 x1 x2 v0 v1 v3 = some t) (hrest : (rest.map fun v => v.category).sum ≤ 8) (hdg : decode cc pc = .ok (.invokevirtual index, 3)) (hc : cells ≤ R.cells ∧ slots ≤ R.slots) (kk : ∀ (H1 : Heap) (locs1 : List Loc), mH D cI cZ ad t.2.1 t.2.2.1 v2 t.2.2.2 v4 v5 v6 v7 v8 s H1 locs1 → W p l e R s m args below meth c H1 locs1 cells slots Q (F0 m (pc + 3) ls (.int t.1 :: rest))) : W p l e R s m args below meth c H locs cells slots Q (F0 m pc ls (.int x2 :: .int x1 :: .ref (ad 0) :: rest)) := by
  have hA : ∀ q, mA ad H.size q → mA ad s.heap.size q := fun q h => h.elim Or.inl (fun h => Or.inr (Nat.le_trans hH.2.1 h))
  refine va_calli (va_runV (As := [.int x1, .int x2]) (rest := rest) X.1 (c5_grade l hI H.size x1 x2 hf) (cwV 2 X.1.2.2.2.2 hG rfl rfl rfl (by decide +kernel) hR) ⟨mBs_bl, va_recv X.2.2.2 hH.1 (ci := 5) (q0 := 0) rfl rfl, fun U hU hW => ⟨rfl, by rw [hU], by rw [hU]; exact hH.1, va_K.moved hW.alike X.2.2.2⟩⟩ rfl rfl hls rfl (lv_room hrest) hdg hc) hH.2 (fun q _ h => hA q h) hA (fun r9 u t9 H1 locs1 ht hvm hw hB hz1 hk1 hS => ?_)
  subst hw
  exact kk H1 locs1 ⟨by rw [← ht]; exact hB.1, hS⟩
/-! OreRailwayModel.switches()I -/
def rm5_switches : Room := { frames := 0, cells := 0, slots := 0, locals := 0 }
def f5_switches_28 (v1 : Nat → Int32) (K4 : Int32 → Int32 → Option (Int32)) (x2 : Int32) (y0 : Int32) (y1 : Int32) : Option (Int32) := K4 (y1 + y0) (x2 + 1)
set_option maxRecDepth 100000 in
set_option maxHeartbeats 4000000 in
theorem w5_switches_28 {p : Program} {l : Launch} {e : Env} {s : State} {m : MethodId} {args : Array Value} {below : List Frame} {meth : Method} {c : Code} {D : va_G} {cI cZ : ClassId} {ad : Nat → Nat} {v0 v1 v2 v3 v4 v5 v6 v7 v8 : Nat → Int32} (X : mX D cI cZ p s m args meth c cX5_switches 3 (some .int)) (hP : va_P D vwCl (mwW cI cZ ad v0 v1 v2 v3 v4 v5 v6 v7 v8) s.heap) {x2 : Int32} {y0 : Int32} {y1 : Int32} {t : Int32} {K4 : Int32 → Int32 → Option (Int32)} (hK4 : ∀ (x1 : Int32) (x2 : Int32) (ls : Array Slot), lv_has ls 3 [(0, .ref (ad 0)), (1, .int x1), (2, .int x2)] → K4 x1 x2 = some t → W p l e rm5_switches s m args below meth c s.heap [] 0 0 (MQ below (QcRead t) args s 0 0 (fun _ => False)) (F0 m 4 ls []))  {ls : Array Slot} (hl : lv_has ls 3 [(0, .ref (ad 0)), (2, .int x2)]) (hf : f5_switches_28 v1 K4 x2 y0 y1 = some t) : W p l e rm5_switches s m args below meth c s.heap [] 0 0 (MQ below (QcRead t) args s 0 0 (fun _ => False)) (F0 m 28 ls [.int y0, .int y1]) := by
  obtain ⟨⟨hx, hb, hml, hown, hts⟩, hr, hlk, hK⟩ := id X
  replace hf : (K4 (y1 + y0) (x2 + 1)) = some t := hf
  refine lv_iadd hx hb dX5_switches_28 ?_
  refine lv_istore_n (lv' := [(1, .int (y1 + y0)), (0, .ref (ad 0)), (2, .int x2)]) hx hb dX5_switches_29 rfl hl (by decide) rfl (fun ls hl => ?_)
  refine lv_iinc (v := x2 + 1) (lv' := [(2, .int (x2 + 1)), (1, .int (y1 + y0)), (0, .ref (ad 0))]) hx hb dX5_switches_30 hl (k := 2) rfl rfl (by decide) rfl (fun ls hl => ?_)
  refine lv_goto (tgt := 4) hx hb dX5_switches_33 (by decide) ?_
  exact hK4 _ _ _ (lv_sub hl [2, 1, 0] rfl) hf
def f5_switches_4 (v1 : Nat → Int32) : Nat → Int32 → Int32 → Option (Int32)
  | 0, _, _ => none
  | n + 1, x1, x2 => if 30 ≤ x2 then (some x1) else (gd (30 + x2) 171 (if (v1 (Int32.toNatClampNeg (30 + x2))) ≤ 0 then (f5_switches_28 v1 (f5_switches_4 v1 n) x2 0 x1) else (f5_switches_28 v1 (f5_switches_4 v1 n) x2 1 x1)))
set_option maxRecDepth 100000 in
set_option maxHeartbeats 4000000 in
theorem w5_switches_4 {p : Program} {l : Launch} {e : Env} {s : State} {m : MethodId} {args : Array Value} {below : List Frame} {meth : Method} {c : Code} {D : va_G} {cI cZ : ClassId} {ad : Nat → Nat} {v0 v1 v2 v3 v4 v5 v6 v7 v8 : Nat → Int32} (X : mX D cI cZ p s m args meth c cX5_switches 3 (some .int)) (hP : va_P D vwCl (mwW cI cZ ad v0 v1 v2 v3 v4 v5 v6 v7 v8) s.heap) {t : Int32} :
    ∀ (n : Nat) (x1 : Int32) (x2 : Int32) (ls : Array Slot), lv_has ls 3 [(0, .ref (ad 0)), (1, .int x1), (2, .int x2)] → f5_switches_4 v1 n x1 x2 = some t → W p l e rm5_switches s m args below meth c s.heap [] 0 0 (MQ below (QcRead t) args s 0 0 (fun _ => False)) (F0 m 4 ls []) := by
  obtain ⟨⟨hx, hb, hml, hown, hts⟩, hr, hlk, hK⟩ := id X
  intro n
  induction n with
  | zero =>
    intro x1 x2 ls hl hf
    cases hf
  | succ n ih =>
    intro x1 x2 ls hl hf
    replace hf : (if 30 ≤ x2 then (some x1) else (gd (30 + x2) 171 (if (v1 (Int32.toNatClampNeg (30 + x2))) ≤ 0 then (f5_switches_28 v1 (f5_switches_4 v1 n) x2 0 x1) else (f5_switches_28 v1 (f5_switches_4 v1 n) x2 1 x1)))) = some t := hf
    refine lv_iload_n hx hb dX5_switches_4 rfl (lv_at hl 2 rfl) ?_
    refine lv_bipush (v := 30) hx hb dX5_switches_5 (by decide) ?_
    refine lv_icmp_ge (tgt := 36) hx hb dX5_switches_7 (by decide) (fun c1 => ?_) (fun c1 => ?_)
    · have hf := it_t c1 hf
      refine lv_iload_n hx hb dX5_switches_36 rfl (lv_at hl 1 rfl) ?_
      obtain rfl := so_i hf
      exact rd_i hx hb hr hlk dX5_switches_37
    · have hf := it_f c1 hf
      refine lv_iload_n hx hb dX5_switches_10 rfl (lv_at hl 1 rfl) ?_
      refine lv_aload_n hx hb dX5_switches_11 rfl (lv_at hl 0 rfl) ?_
      refine mr_get X hP (k := 0) (v := .ref (ad 1)) (by decide) gfX5_7 rfl dX5_switches_12 ?_
      refine lv_bipush (v := 30) hx hb dX5_switches_15 (by decide) ?_
      refine lv_iload_n hx hb dX5_switches_17 rfl (lv_at hl 2 rfl) ?_
      refine lv_iadd hx hb dX5_switches_18 ?_
      obtain ⟨hi2, hf⟩ := gd_o hf
      refine mr_ld1 X hP hi2 dX5_switches_19 ?_
      refine lv_if_le (tgt := 27) hx hb dX5_switches_20 (by decide) (fun c3 => ?_) (fun c3 => ?_)
      · have hf := it_t c3 hf
        refine lv_iconst (v := 0) hx hb dX5_switches_27 (by decide) ?_
        exact w5_switches_28 X hP (K4 := (f5_switches_4 v1 n)) ih  (lv_sub hl [0, 2] rfl) hf
      · have hf := it_f c3 hf
        refine lv_iconst (v := 1) hx hb dX5_switches_23 (by decide) ?_
        refine lv_goto (tgt := 28) hx hb dX5_switches_24 (by decide) ?_
        exact w5_switches_28 X hP (K4 := (f5_switches_4 v1 n)) ih  (lv_sub hl [0, 2] rfl) hf
def f5_switches_0 (v1 : Nat → Int32) : Option (Int32) := f5_switches_4 v1 fu 0 0
set_option maxRecDepth 100000 in
set_option maxHeartbeats 4000000 in
theorem w5_switches_0 {p : Program} {l : Launch} {e : Env} {s : State} {m : MethodId} {args : Array Value} {below : List Frame} {meth : Method} {c : Code} {D : va_G} {cI cZ : ClassId} {ad : Nat → Nat} {v0 v1 v2 v3 v4 v5 v6 v7 v8 : Nat → Int32} (X : mX D cI cZ p s m args meth c cX5_switches 3 (some .int)) (hP : va_P D vwCl (mwW cI cZ ad v0 v1 v2 v3 v4 v5 v6 v7 v8) s.heap) {t : Int32}  {ls : Array Slot} (hl : lv_has ls 3 [(0, .ref (ad 0))]) (hf : f5_switches_0 v1  = some t) : W p l e rm5_switches s m args below meth c s.heap [] 0 0 (MQ below (QcRead t) args s 0 0 (fun _ => False)) (F0 m 0 ls []) := by
  obtain ⟨⟨hx, hb, hml, hown, hts⟩, hr, hlk, hK⟩ := id X
  replace hf : (f5_switches_4 v1 fu 0 0) = some t := hf
  refine lv_iconst (v := 0) hx hb dX5_switches_0 (by decide) ?_
  refine lv_istore_n (lv' := [(1, .int 0), (0, .ref (ad 0))]) hx hb dX5_switches_1 rfl hl (by decide) rfl (fun ls hl => ?_)
  refine lv_iconst (v := 0) hx hb dX5_switches_2 (by decide) ?_
  refine lv_istore_n (lv' := [(2, .int 0), (1, .int 0), (0, .ref (ad 0))]) hx hb dX5_switches_3 rfl hl (by decide) rfl (fun ls hl => ?_)
  exact w5_switches_4 X hP _ _ _ _ (lv_sub hl [2, 1, 0] rfl) hf
set_option maxRecDepth 100000 in
set_option maxHeartbeats 4000000 in
theorem c5_switches (l : Launch) {D : va_G} {cI cZ : ClassId} {ad : Nat → Nat} {v0 v1 v2 v3 v4 v5 v6 v7 v8 : Nat → Int32} {t : Int32} (hf : f5_switches_0 v1 = some t) : Met l yX5_switches uX5_switches rm5_switches (va_Pc [.ref (ad 0)] (mB D cI cZ ad v0 v1 v2 v3 v4 v5 v6 v7 v8)) (QcRead t) 0 0 (fun _ => False) := by
  refine Met.ofW (cc := cX5_switches) (maxL := 3) (ret := (some .int)) (by decide) rfl ?_
  intro p e s m args below meth c s₁ B hml hv
  obtain ⟨rfl, hP, hK⟩ := hv
  have X : mX D cI cZ p s m ([.ref (ad 0)] : List Value).toArray meth c cX5_switches 3 (some .int) := ⟨⟨B.exec, B.bytes, hml, findClass_of_methodNamed B.named, fun w h => atoms_spec (ws := uX5_switches) B.pre w (List.mem_cons_of_mem _ h)⟩, B.returns, B.notSynchronized, hK⟩
  have hl := lv_entry ([.ref (ad 0)]) (n := 3) (Nat.le_of_ble_eq_true rfl)
  rw [lg_entry_eq]
  generalize (lg_sl ([.ref (ad 0)]) ++ List.replicate (3 - (lg_sl ([.ref (ad 0)])).length) Slot.unset).toArray = ls at hl ⊢
  have hl : lv_has ls 3 [(0, .ref (ad 0))] := hl
  exact w5_switches_0 X hP (lv_sub hl [0] rfl) hf
set_option maxRecDepth 100000 in
set_option maxHeartbeats 4000000 in
theorem k5_switches {p : Program} {l : Launch} {e : Env} {R : Room} {s : State} {m : MethodId} {args : Array Value} {below : List Frame} {meth : Method} {c : Code} {cc : ByteArray} {nL : Nat} {ret : Option FieldType} {D : va_G} {cI cZ : ClassId} {ad : Nat → Nat} {v0 v1 v2 v3 v4 v5 v6 v7 v8 : Nat → Int32} {H : Heap} {locs : List Loc} {cells slots : Nat} {Q : State → Prop} {pc : Nat} {ls : Array Slot} {rest : List Value} (X : mX D cI cZ p s m args meth c cc nL ret) (hP : va_P D vwCl (mwW cI cZ ad v0 v1 v2 v3 v4 v5 v6 v7 v8) H) (hls : ls.size = nL) {index : Nat} (hG : GoodIn gw (wsV RX5 index RX5 yX5_switches uX5_switches)) (hR : rm5_switches.frames + 1 ≤ R.frames ∧ 8 + (3 + 11) + rm5_switches.locals ≤ R.locals) {t : Int32} (hf : f5_switches_0 v1 = some t) (hrest : (rest.map fun v => v.category).sum ≤ 8) (hdg : decode cc pc = .ok (.invokevirtual index, 3)) (hc : cells ≤ R.cells ∧ slots ≤ R.slots) (kk : W p l e R s m args below meth c H locs cells slots Q (F0 m (pc + 3) ls (.int t :: rest))) : W p l e R s m args below meth c H locs cells slots Q (F0 m pc ls (.ref (ad 0) :: rest)) :=
  W.callR (W.runV (As := []) X.1 (c5_switches l hf) (cwV 0 X.1.2.2.2.2 hG rfl rfl rfl (by decide +kernel) hR) ⟨mB_bl, va_recv X.2.2.2 hP (ci := 5) (q0 := 0) rfl rfl, fun U hU hW => ⟨rfl, by rw [hU]; exact hP, va_K.moved hW.alike X.2.2.2⟩⟩ rfl rfl hls rfl (lv_room hrest) hdg hc) kk
/-! OreRailwayModel.spring(II)I -/
def rm5_spring : Room := { frames := 1, cells := 0, slots := 0, locals := 22 }
def f5_spring_60 (x1 : Int32) (x2 : Int32) (y0 : Int32) (v0 : Nat → Int32) (v1 : Nat → Int32) (v3 : Nat → Int32) : Option (Int32 × (Nat → Int32) × (Nat → Int32) × (Nat → Int32)) := Option.bind (f5_refused_0 y0 v0) (fun t1 => if t1.1 = 0 then (Option.bind (f5_saves_0 v1 t1.2 v3) (fun t3 => gd (30 + x1) 171 (gd (30 + x1) 171 (some (v1 (Int32.toNatClampNeg (30 + x1)), t3.1, upd v1 (Int32.toNatClampNeg (30 + x1)) x2, t3.2))))) else (some (0, t1.2, v1, v3)))
set_option maxRecDepth 100000 in
set_option maxHeartbeats 4000000 in
theorem w5_spring_60 {p : Program} {l : Launch} {e : Env} {s : State} {m : MethodId} {args : Array Value} {below : List Frame} {meth : Method} {c : Code} {D : va_G} {cI cZ : ClassId} {ad : Nat → Nat} {v0 v1 v2 v3 v4 v5 v6 v7 v8 : Nat → Int32} (X : mX D cI cZ p s m args meth c cX5_spring 5 (some .int)) (hI : mInj ad) {x1 : Int32} {x2 : Int32} {y0 : Int32} {t : Int32 × (Nat → Int32) × (Nat → Int32) × (Nat → Int32)}  {H : Heap} {locs : List Loc} (hH : mH D cI cZ ad v0 v1 v2 v3 v4 v5 v6 v7 v8 s H locs) {ls : Array Slot} (hl : lv_has ls 5 [(0, .ref (ad 0)), (1, .int x1), (2, .int x2)]) (hf : f5_spring_60 x1 x2 y0 v0 v1 v3 = some t) : W p l e rm5_spring s m args below meth c H locs 0 0 (MQ below (va_Qi (fun (r9 : Int32) (_ : Unit) => r9 = t.1) (fun _ t9 => mB D cI cZ ad t.2.1 t.2.2.1 v2 t.2.2.2 v4 v5 v6 v7 v8 t9) (mA ad s.heap.size)) args s 0 0 (mA ad s.heap.size)) (F0 m 60 ls [.int y0, .ref (ad 0)]) := by
  obtain ⟨⟨hx, hb, hml, hown, hts⟩, hr, hlk, hK⟩ := id X
  replace hf : (Option.bind (f5_refused_0 y0 v0) (fun t1 => if t1.1 = 0 then (Option.bind (f5_saves_0 v1 t1.2 v3) (fun t3 => gd (30 + x1) 171 (gd (30 + x1) 171 (some (v1 (Int32.toNatClampNeg (30 + x1)), t3.1, upd v1 (Int32.toNatClampNeg (30 + x1)) x2, t3.2))))) else (some (0, t1.2, v1, v3)))) = some t := hf
  obtain ⟨t1, ht1, hf⟩ := bd_o hf
  refine k5_refused X hI hH hl.1 qX5_50 ⟨Nat.le_of_ble_eq_true rfl, Nat.le_of_ble_eq_true rfl⟩ ht1 (Nat.le_of_ble_eq_true rfl) dX5_spring_60 ⟨Nat.zero_le _, Nat.zero_le _⟩ (fun H locs hH => ?_)
  refine lv_if_eq (tgt := 68) hx hb dX5_spring_63 (by decide) (fun c2 => ?_) (fun c2 => ?_)
  · have hf := it_t c2 hf
    refine lv_aload_n hx hb dX5_spring_68 rfl (lv_at hl 0 rfl) ?_
    obtain ⟨t3, ht3, hf⟩ := bd_o hf
    refine k5_saves X hI hH hl.1 qX5_54 ⟨Nat.le_of_ble_eq_true rfl, Nat.le_of_ble_eq_true rfl⟩ ht3 (Nat.le_of_ble_eq_true rfl) dX5_spring_69 ⟨Nat.zero_le _, Nat.zero_le _⟩ (fun H locs hH => ?_)
    refine lv_aload_n hx hb dX5_spring_72 rfl (lv_at hl 0 rfl) ?_
    refine mr_get X hH.1 (k := 0) (v := .ref (ad 1)) (by decide) gfX5_7 rfl dX5_spring_73 ?_
    refine lv_bipush (v := 30) hx hb dX5_spring_76 (by decide) ?_
    refine lv_iload_n hx hb dX5_spring_78 rfl (lv_at hl 1 rfl) ?_
    refine lv_iadd hx hb dX5_spring_79 ?_
    obtain ⟨hi4, hf⟩ := gd_o hf
    refine mr_ld1 X hH.1 hi4 dX5_spring_80 ?_
    refine lv_istore (lv' := [(4, .int (v1 (Int32.toNatClampNeg (30 + x1)))), (0, .ref (ad 0)), (1, .int x1), (2, .int x2)]) hx hb dX5_spring_81 hl (by decide) rfl (fun ls hl => ?_)
    refine lv_aload_n hx hb dX5_spring_83 rfl (lv_at hl 1 rfl) ?_
    refine mr_get X hH.1 (k := 0) (v := .ref (ad 1)) (by decide) gfX5_7 rfl dX5_spring_84 ?_
    refine lv_bipush (v := 30) hx hb dX5_spring_87 (by decide) ?_
    refine lv_iload_n hx hb dX5_spring_89 rfl (lv_at hl 2 rfl) ?_
    refine lv_iadd hx hb dX5_spring_90 ?_
    refine lv_iload_n hx hb dX5_spring_91 rfl (lv_at hl 3 rfl) ?_
    obtain ⟨hi5, hf⟩ := gd_o hf
    refine mr_st1 X hI hH hi5 dX5_spring_92 (fun H locs hH => ?_)
    refine lv_iload hx hb dX5_spring_93 (lv_at hl 0 rfl) ?_
    obtain rfl := so_i hf
    exact mr_iw X hH rfl dX5_spring_95
  · have hf := it_f c2 hf
    refine lv_iconst (v := 0) hx hb dX5_spring_66 (by decide) ?_
    obtain rfl := so_i hf
    exact mr_iw X hH rfl dX5_spring_67
def f5_spring_59 (x1 : Int32) (x2 : Int32) (v0 : Nat → Int32) (v1 : Nat → Int32) (v3 : Nat → Int32) : Option (Int32 × (Nat → Int32) × (Nat → Int32) × (Nat → Int32)) := f5_spring_60 x1 x2 0 v0 v1 v3
set_option maxRecDepth 100000 in
set_option maxHeartbeats 4000000 in
theorem w5_spring_59 {p : Program} {l : Launch} {e : Env} {s : State} {m : MethodId} {args : Array Value} {below : List Frame} {meth : Method} {c : Code} {D : va_G} {cI cZ : ClassId} {ad : Nat → Nat} {v0 v1 v2 v3 v4 v5 v6 v7 v8 : Nat → Int32} (X : mX D cI cZ p s m args meth c cX5_spring 5 (some .int)) (hI : mInj ad) {x1 : Int32} {x2 : Int32} {t : Int32 × (Nat → Int32) × (Nat → Int32) × (Nat → Int32)}  {H : Heap} {locs : List Loc} (hH : mH D cI cZ ad v0 v1 v2 v3 v4 v5 v6 v7 v8 s H locs) {ls : Array Slot} (hl : lv_has ls 5 [(0, .ref (ad 0)), (1, .int x1), (2, .int x2)]) (hf : f5_spring_59 x1 x2 v0 v1 v3 = some t) : W p l e rm5_spring s m args below meth c H locs 0 0 (MQ below (va_Qi (fun (r9 : Int32) (_ : Unit) => r9 = t.1) (fun _ t9 => mB D cI cZ ad t.2.1 t.2.2.1 v2 t.2.2.2 v4 v5 v6 v7 v8 t9) (mA ad s.heap.size)) args s 0 0 (mA ad s.heap.size)) (F0 m 59 ls [.ref (ad 0)]) := by
  obtain ⟨⟨hx, hb, hml, hown, hts⟩, hr, hlk, hK⟩ := id X
  replace hf : (f5_spring_60 x1 x2 0 v0 v1 v3) = some t := hf
  refine lv_iconst (v := 0) hx hb dX5_spring_59 (by decide) ?_
  exact w5_spring_60 X hI hH (lv_sub hl [0, 1, 2] rfl) hf
def f5_spring_0 (x1 : Int32) (x2 : Int32) (v0 : Nat → Int32) (v1 : Nat → Int32) (v3 : Nat → Int32) : Option (Int32 × (Nat → Int32) × (Nat → Int32) × (Nat → Int32)) := Option.bind (f5_in_0 x1 1 29) (fun t1 => if t1 = 0 then (f5_spring_60 x1 x2 1 v0 v1 v3) else (Option.bind (f5_in_0 x2 0 40) (fun t3 => if t3 = 0 then (f5_spring_60 x1 x2 2 v0 v1 v3) else (if x2 ≤ 0 then (f5_spring_59 x1 x2 v0 v1 v3) else (gd (30 + x1) 171 (if (v1 (Int32.toNatClampNeg (30 + x1))) = 0 then (Option.bind (f5_switches_0 v1) (fun t8 => if t8 = 4 then (f5_spring_60 x1 x2 3 v0 v1 v3) else (f5_spring_59 x1 x2 v0 v1 v3))) else (f5_spring_59 x1 x2 v0 v1 v3)))))))
set_option maxRecDepth 100000 in
set_option maxHeartbeats 4000000 in
theorem w5_spring_0 {p : Program} {l : Launch} {e : Env} {s : State} {m : MethodId} {args : Array Value} {below : List Frame} {meth : Method} {c : Code} {D : va_G} {cI cZ : ClassId} {ad : Nat → Nat} {v0 v1 v2 v3 v4 v5 v6 v7 v8 : Nat → Int32} (X : mX D cI cZ p s m args meth c cX5_spring 5 (some .int)) (hI : mInj ad) {x1 : Int32} {x2 : Int32} {t : Int32 × (Nat → Int32) × (Nat → Int32) × (Nat → Int32)}  {H : Heap} {locs : List Loc} (hH : mH D cI cZ ad v0 v1 v2 v3 v4 v5 v6 v7 v8 s H locs) {ls : Array Slot} (hl : lv_has ls 5 [(0, .ref (ad 0)), (1, .int x1), (2, .int x2)]) (hf : f5_spring_0 x1 x2 v0 v1 v3 = some t) : W p l e rm5_spring s m args below meth c H locs 0 0 (MQ below (va_Qi (fun (r9 : Int32) (_ : Unit) => r9 = t.1) (fun _ t9 => mB D cI cZ ad t.2.1 t.2.2.1 v2 t.2.2.2 v4 v5 v6 v7 v8 t9) (mA ad s.heap.size)) args s 0 0 (mA ad s.heap.size)) (F0 m 0 ls []) := by
  obtain ⟨⟨hx, hb, hml, hown, hts⟩, hr, hlk, hK⟩ := id X
  replace hf : (Option.bind (f5_in_0 x1 1 29) (fun t1 => if t1 = 0 then (f5_spring_60 x1 x2 1 v0 v1 v3) else (Option.bind (f5_in_0 x2 0 40) (fun t3 => if t3 = 0 then (f5_spring_60 x1 x2 2 v0 v1 v3) else (if x2 ≤ 0 then (f5_spring_59 x1 x2 v0 v1 v3) else (gd (30 + x1) 171 (if (v1 (Int32.toNatClampNeg (30 + x1))) = 0 then (Option.bind (f5_switches_0 v1) (fun t8 => if t8 = 4 then (f5_spring_60 x1 x2 3 v0 v1 v3) else (f5_spring_59 x1 x2 v0 v1 v3))) else (f5_spring_59 x1 x2 v0 v1 v3)))))))) = some t := hf
  refine lv_iload_n hx hb dX5_spring_0 rfl (lv_at hl 1 rfl) ?_
  refine lv_iconst (v := 1) hx hb dX5_spring_1 (by decide) ?_
  refine lv_bipush (v := 29) hx hb dX5_spring_2 (by decide) ?_
  obtain ⟨t1, ht1, hf⟩ := bd_o hf
  refine k5_in X.1 hl.1 qX5_39 ⟨Nat.le_of_ble_eq_true rfl, Nat.le_of_ble_eq_true rfl⟩ ht1 (Nat.le_of_ble_eq_true rfl) dX5_spring_4 ⟨Nat.zero_le _, Nat.zero_le _⟩ ?_
  refine lv_istore_n (lv' := [(3, .int t1), (0, .ref (ad 0)), (1, .int x1), (2, .int x2)]) hx hb dX5_spring_7 rfl hl (by decide) rfl (fun ls hl => ?_)
  refine lv_aload_n hx hb dX5_spring_8 rfl (lv_at hl 1 rfl) ?_
  refine lv_iload_n hx hb dX5_spring_9 rfl (lv_at hl 0 rfl) ?_
  refine lv_if_ne (tgt := 17) hx hb dX5_spring_10 (by decide) (fun c2 => ?_) (fun c2 => ?_)
  · have hf := it_f c2 hf
    refine lv_iload_n hx hb dX5_spring_17 rfl (lv_at hl 3 rfl) ?_
    refine lv_iconst (v := 0) hx hb dX5_spring_18 (by decide) ?_
    refine lv_bipush (v := 40) hx hb dX5_spring_19 (by decide) ?_
    obtain ⟨t3, ht3, hf⟩ := bd_o hf
    refine k5_in X.1 hl.1 qX5_39 ⟨Nat.le_of_ble_eq_true rfl, Nat.le_of_ble_eq_true rfl⟩ ht3 (Nat.le_of_ble_eq_true rfl) dX5_spring_21 ⟨Nat.zero_le _, Nat.zero_le _⟩ ?_
    refine lv_if_ne (tgt := 31) hx hb dX5_spring_24 (by decide) (fun c4 => ?_) (fun c4 => ?_)
    · have hf := it_f c4 hf
      refine lv_iload_n hx hb dX5_spring_31 rfl (lv_at hl 3 rfl) ?_
      refine lv_if_le (tgt := 59) hx hb dX5_spring_32 (by decide) (fun c5 => ?_) (fun c5 => ?_)
      · have hf := it_t c5 hf
        exact w5_spring_59 X hI hH (lv_sub hl [1, 2, 3] rfl) hf
      · have hf := it_f c5 hf
        refine lv_aload_n hx hb dX5_spring_35 rfl (lv_at hl 1 rfl) ?_
        refine mr_get X hH.1 (k := 0) (v := .ref (ad 1)) (by decide) gfX5_7 rfl dX5_spring_36 ?_
        refine lv_bipush (v := 30) hx hb dX5_spring_39 (by decide) ?_
        refine lv_iload_n hx hb dX5_spring_41 rfl (lv_at hl 2 rfl) ?_
        refine lv_iadd hx hb dX5_spring_42 ?_
        obtain ⟨hi6, hf⟩ := gd_o hf
        refine mr_ld1 X hH.1 hi6 dX5_spring_43 ?_
        refine lv_if_ne (tgt := 59) hx hb dX5_spring_44 (by decide) (fun c7 => ?_) (fun c7 => ?_)
        · have hf := it_f c7 hf
          exact w5_spring_59 X hI hH (lv_sub hl [1, 2, 3] rfl) hf
        · have hf := it_t c7 hf
          refine lv_aload_n hx hb dX5_spring_47 rfl (lv_at hl 1 rfl) ?_
          obtain ⟨t8, ht8, hf⟩ := bd_o hf
          refine k5_switches X hH.1 hl.1 qX5_57 ⟨Nat.le_of_ble_eq_true rfl, Nat.le_of_ble_eq_true rfl⟩ ht8 (Nat.le_of_ble_eq_true rfl) dX5_spring_48 ⟨Nat.zero_le _, Nat.zero_le _⟩ ?_
          refine lv_iconst (v := 4) hx hb dX5_spring_51 (by decide) ?_
          refine lv_icmp_ne (tgt := 59) hx hb dX5_spring_52 (by decide) (fun c9 => ?_) (fun c9 => ?_)
          · have hf := it_f c9 hf
            exact w5_spring_59 X hI hH (lv_sub hl [1, 2, 3] rfl) hf
          · have hf := it_t c9 hf
            refine lv_iconst (v := 3) hx hb dX5_spring_55 (by decide) ?_
            refine lv_goto (tgt := 60) hx hb dX5_spring_56 (by decide) ?_
            exact w5_spring_60 X hI hH (lv_sub hl [1, 2, 3] rfl) hf
    · have hf := it_t c4 hf
      refine lv_iconst (v := 2) hx hb dX5_spring_27 (by decide) ?_
      refine lv_goto (tgt := 60) hx hb dX5_spring_28 (by decide) ?_
      exact w5_spring_60 X hI hH (lv_sub hl [1, 2, 3] rfl) hf
  · have hf := it_t c2 hf
    refine lv_iconst (v := 1) hx hb dX5_spring_13 (by decide) ?_
    refine lv_goto (tgt := 60) hx hb dX5_spring_14 (by decide) ?_
    exact w5_spring_60 X hI hH (lv_sub hl [1, 2, 3] rfl) hf
set_option maxRecDepth 100000 in
set_option maxHeartbeats 4000000 in
theorem c5_spring (l : Launch) {D : va_G} {cI cZ : ClassId} {ad : Nat → Nat} {v0 v1 v2 v3 v4 v5 v6 v7 v8 : Nat → Int32} (hI : mInj ad) (sz : Nat) (x1 : Int32) (x2 : Int32) {t : Int32 × (Nat → Int32) × (Nat → Int32) × (Nat → Int32)} (hf : f5_spring_0 x1 x2 v0 v1 v3 = some t) : Met l yX5_spring uX5_spring rm5_spring (va_Pc [.ref (ad 0), .int x1, .int x2] (fun U => U.heap.size = sz ∧ mB D cI cZ ad v0 v1 v2 v3 v4 v5 v6 v7 v8 U)) (va_Qi (fun (r9 : Int32) (_ : Unit) => r9 = t.1) (fun _ t9 => mB D cI cZ ad t.2.1 t.2.2.1 v2 t.2.2.2 v4 v5 v6 v7 v8 t9) (mA ad sz)) 0 0 (mA ad sz) := by
  refine Met.ofW (cc := cX5_spring) (maxL := 5) (ret := (some .int)) (by decide) rfl ?_
  intro p e s m args below meth c s₁ B hml hv
  obtain ⟨rfl, hsz, hP, hK⟩ := hv
  subst hsz
  have X : mX D cI cZ p s m ([.ref (ad 0), .int x1, .int x2] : List Value).toArray meth c cX5_spring 5 (some .int) := ⟨⟨B.exec, B.bytes, hml, findClass_of_methodNamed B.named, fun w h => atoms_spec (ws := uX5_spring) B.pre w (List.mem_cons_of_mem _ h)⟩, B.returns, B.notSynchronized, hK⟩
  have hl := lv_entry ([.ref (ad 0), .int x1, .int x2]) (n := 5) (Nat.le_of_ble_eq_true rfl)
  rw [lg_entry_eq]
  generalize (lg_sl ([.ref (ad 0), .int x1, .int x2]) ++ List.replicate (5 - (lg_sl ([.ref (ad 0), .int x1, .int x2])).length) Slot.unset).toArray = ls at hl ⊢
  have hl : lv_has ls 5 [(0, .ref (ad 0)), (1, .int x1), (2, .int x2)] := hl
  exact w5_spring_0 X hI ⟨hP, va_S.rf⟩ (lv_sub hl [0, 1, 2] rfl) hf
set_option maxRecDepth 100000 in
set_option maxHeartbeats 4000000 in
theorem k5_spring {p : Program} {l : Launch} {e : Env} {R : Room} {s : State} {m : MethodId} {args : Array Value} {below : List Frame} {meth : Method} {c : Code} {cc : ByteArray} {nL : Nat} {ret : Option FieldType} {D : va_G} {cI cZ : ClassId} {ad : Nat → Nat} {v0 v1 v2 v3 v4 v5 v6 v7 v8 : Nat → Int32} {H : Heap} {locs : List Loc} {cells slots : Nat} {Q : State → Prop} {pc : Nat} {ls : Array Slot} {rest : List Value} (X : mX D cI cZ p s m args meth c cc nL ret) (hI : mInj ad) (hH : mH D cI cZ ad v0 v1 v2 v3 v4 v5 v6 v7 v8 s H locs) (hls : ls.size = nL) {index : Nat} (hG : GoodIn gw (wsV RX5 index RX5 yX5_spring uX5_spring)) (hR : rm5_spring.frames + 1 ≤ R.frames ∧ 8 + (5 + 11) + rm5_spring.locals ≤ R.locals) {x1 : Int32} {x2 : Int32} {t : Int32 × (Nat → Int32) × (Nat → Int32) × (Nat → Int32)} (hf : f5_spring_0 x1 x2 v0 v1 v3 = some t) (hrest : (rest.map fun v => v.category).sum ≤ 8) (hdg : decode cc pc = .ok (.invokevirtual index, 3)) (hc : cells ≤ R.cells ∧ slots ≤ R.slots) (kk : ∀ (H1 : Heap) (locs1 : List Loc), mH D cI cZ ad t.2.1 t.2.2.1 v2 t.2.2.2 v4 v5 v6 v7 v8 s H1 locs1 → W p l e R s m args below meth c H1 locs1 cells slots Q (F0 m (pc + 3) ls (.int t.1 :: rest))) : W p l e R s m args below meth c H locs cells slots Q (F0 m pc ls (.int x2 :: .int x1 :: .ref (ad 0) :: rest)) := by
  have hA : ∀ q, mA ad H.size q → mA ad s.heap.size q := fun q h => h.elim Or.inl (fun h => Or.inr (Nat.le_trans hH.2.1 h))
  refine va_calli (va_runV (As := [.int x1, .int x2]) (rest := rest) X.1 (c5_spring l hI H.size x1 x2 hf) (cwV 2 X.1.2.2.2.2 hG rfl rfl rfl (by decide +kernel) hR) ⟨mBs_bl, va_recv X.2.2.2 hH.1 (ci := 5) (q0 := 0) rfl rfl, fun U hU hW => ⟨rfl, by rw [hU], by rw [hU]; exact hH.1, va_K.moved hW.alike X.2.2.2⟩⟩ rfl rfl hls rfl (lv_room hrest) hdg hc) hH.2 (fun q _ h => hA q h) hA (fun r9 u t9 H1 locs1 ht hvm hw hB hz1 hk1 hS => ?_)
  subst hw
  exact kk H1 locs1 ⟨by rw [← ht]; exact hB.1, hS⟩
/-! OreRailwayModel.adds()I -/
def rm5_adds : Room := { frames := 1, cells := 0, slots := 0, locals := 21 }
def f5_adds_11 : Nat → Int32 → Int32 → (Nat → Int32) → Option (Int32 × (Nat → Int32))
  | 0, _, _, _ => none
  | n + 1, x1, x2, v1 => if 9 ≤ x2 then (gd 162 171 (gd 162 171 (some (x1, upd v1 (Int32.toNatClampNeg 162) ((v1 (Int32.toNatClampNeg 162)) + 1))))) else (gd (e5_of x1 x2) 171 ((f5_adds_11 n) x1 (x2 + 1) (upd v1 (Int32.toNatClampNeg (e5_of x1 x2)) 0)))
set_option maxRecDepth 100000 in
set_option maxHeartbeats 4000000 in
theorem w5_adds_11 {p : Program} {l : Launch} {e : Env} {s : State} {m : MethodId} {args : Array Value} {below : List Frame} {meth : Method} {c : Code} {D : va_G} {cI cZ : ClassId} {ad : Nat → Nat} {v0 v2 v3 v4 v5 v6 v7 v8 : Nat → Int32} (X : mX D cI cZ p s m args meth c cX5_adds 3 (some .int)) (hI : mInj ad) {t : Int32 × (Nat → Int32)} :
    ∀ (n : Nat) (x1 : Int32) (x2 : Int32) (v1 : Nat → Int32) (H : Heap) (locs : List Loc), mH D cI cZ ad v0 v1 v2 v3 v4 v5 v6 v7 v8 s H locs → ∀ (ls : Array Slot), lv_has ls 3 [(0, .ref (ad 0)), (1, .int x1), (2, .int x2)] → f5_adds_11 n x1 x2 v1 = some t → W p l e rm5_adds s m args below meth c H locs 0 0 (MQ below (va_Qi (fun (r9 : Int32) (_ : Unit) => r9 = t.1) (fun _ t9 => mB D cI cZ ad v0 t.2 v2 v3 v4 v5 v6 v7 v8 t9) (mA ad s.heap.size)) args s 0 0 (mA ad s.heap.size)) (F0 m 11 ls []) := by
  obtain ⟨⟨hx, hb, hml, hown, hts⟩, hr, hlk, hK⟩ := id X
  intro n
  induction n with
  | zero =>
    intro x1 x2 v1 H locs hH ls hl hf
    cases hf
  | succ n ih =>
    intro x1 x2 v1 H locs hH ls hl hf
    replace hf : (if 9 ≤ x2 then (gd 162 171 (gd 162 171 (some (x1, upd v1 (Int32.toNatClampNeg 162) ((v1 (Int32.toNatClampNeg 162)) + 1))))) else (gd (e5_of x1 x2) 171 ((f5_adds_11 n) x1 (x2 + 1) (upd v1 (Int32.toNatClampNeg (e5_of x1 x2)) 0)))) = some t := hf
    refine lv_iload_n hx hb dX5_adds_11 rfl (lv_at hl 2 rfl) ?_
    refine lv_bipush (v := 9) hx hb dX5_adds_12 (by decide) ?_
    refine lv_icmp_ge (tgt := 34) hx hb dX5_adds_14 (by decide) (fun c1 => ?_) (fun c1 => ?_)
    · have hf := it_t c1 hf
      refine lv_aload_n hx hb dX5_adds_34 rfl (lv_at hl 0 rfl) ?_
      refine mr_get X hH.1 (k := 0) (v := .ref (ad 1)) (by decide) gfX5_7 rfl dX5_adds_35 ?_
      refine lv_sipush (v := 162) hx hb dX5_adds_38 (by decide) ?_
      refine lv_dup2_11 hx hb dX5_adds_41 rfl rfl ?_
      obtain ⟨hi2, hf⟩ := gd_o hf
      refine mr_ld1 X hH.1 hi2 dX5_adds_42 ?_
      refine lv_iconst (v := 1) hx hb dX5_adds_43 (by decide) ?_
      refine lv_iadd hx hb dX5_adds_44 ?_
      obtain ⟨hi3, hf⟩ := gd_o hf
      refine mr_st1 X hI hH hi3 dX5_adds_45 (fun H locs hH => ?_)
      refine lv_iload_n hx hb dX5_adds_46 rfl (lv_at hl 1 rfl) ?_
      obtain rfl := so_i hf
      exact mr_iw X hH rfl dX5_adds_47
    · have hf := it_f c1 hf
      refine lv_aload_n hx hb dX5_adds_17 rfl (lv_at hl 0 rfl) ?_
      refine mr_get X hH.1 (k := 0) (v := .ref (ad 1)) (by decide) gfX5_7 rfl dX5_adds_18 ?_
      refine lv_iload_n hx hb dX5_adds_21 rfl (lv_at hl 1 rfl) ?_
      refine lv_iload_n hx hb dX5_adds_22 rfl (lv_at hl 2 rfl) ?_
      refine k5_of X.1 hl.1 qX5_43 ⟨Nat.le_of_ble_eq_true rfl, Nat.le_of_ble_eq_true rfl⟩ (Nat.le_of_ble_eq_true rfl) dX5_adds_23 ⟨Nat.zero_le _, Nat.zero_le _⟩ ?_
      refine lv_iconst (v := 0) hx hb dX5_adds_26 (by decide) ?_
      obtain ⟨hi4, hf⟩ := gd_o hf
      refine mr_st1 X hI hH hi4 dX5_adds_27 (fun H locs hH => ?_)
      refine lv_iinc (v := x2 + 1) (lv' := [(2, .int (x2 + 1)), (0, .ref (ad 0)), (1, .int x1)]) hx hb dX5_adds_28 hl (k := 2) rfl rfl (by decide) rfl (fun ls hl => ?_)
      refine lv_goto (tgt := 11) hx hb dX5_adds_31 (by decide) ?_
      exact ih _ _ _ _ _ hH _ (lv_sub hl [1, 2, 0] rfl) hf
def f5_adds_0 (v1 : Nat → Int32) : Option (Int32 × (Nat → Int32)) := gd 162 171 (f5_adds_11 fu (v1 (Int32.toNatClampNeg 162)) 0 v1)
set_option maxRecDepth 100000 in
set_option maxHeartbeats 4000000 in
theorem w5_adds_0 {p : Program} {l : Launch} {e : Env} {s : State} {m : MethodId} {args : Array Value} {below : List Frame} {meth : Method} {c : Code} {D : va_G} {cI cZ : ClassId} {ad : Nat → Nat} {v0 v1 v2 v3 v4 v5 v6 v7 v8 : Nat → Int32} (X : mX D cI cZ p s m args meth c cX5_adds 3 (some .int)) (hI : mInj ad) {t : Int32 × (Nat → Int32)}  {H : Heap} {locs : List Loc} (hH : mH D cI cZ ad v0 v1 v2 v3 v4 v5 v6 v7 v8 s H locs) {ls : Array Slot} (hl : lv_has ls 3 [(0, .ref (ad 0))]) (hf : f5_adds_0 v1 = some t) : W p l e rm5_adds s m args below meth c H locs 0 0 (MQ below (va_Qi (fun (r9 : Int32) (_ : Unit) => r9 = t.1) (fun _ t9 => mB D cI cZ ad v0 t.2 v2 v3 v4 v5 v6 v7 v8 t9) (mA ad s.heap.size)) args s 0 0 (mA ad s.heap.size)) (F0 m 0 ls []) := by
  obtain ⟨⟨hx, hb, hml, hown, hts⟩, hr, hlk, hK⟩ := id X
  replace hf : (gd 162 171 (f5_adds_11 fu (v1 (Int32.toNatClampNeg 162)) 0 v1)) = some t := hf
  refine lv_aload_n hx hb dX5_adds_0 rfl (lv_at hl 0 rfl) ?_
  refine mr_get X hH.1 (k := 0) (v := .ref (ad 1)) (by decide) gfX5_7 rfl dX5_adds_1 ?_
  refine lv_sipush (v := 162) hx hb dX5_adds_4 (by decide) ?_
  obtain ⟨hi1, hf⟩ := gd_o hf
  refine mr_ld1 X hH.1 hi1 dX5_adds_7 ?_
  refine lv_istore_n (lv' := [(1, .int (v1 (Int32.toNatClampNeg 162))), (0, .ref (ad 0))]) hx hb dX5_adds_8 rfl hl (by decide) rfl (fun ls hl => ?_)
  refine lv_iconst (v := 0) hx hb dX5_adds_9 (by decide) ?_
  refine lv_istore_n (lv' := [(2, .int 0), (1, .int (v1 (Int32.toNatClampNeg 162))), (0, .ref (ad 0))]) hx hb dX5_adds_10 rfl hl (by decide) rfl (fun ls hl => ?_)
  exact w5_adds_11 X hI _ _ _ _ _ _ hH _ (lv_sub hl [2, 1, 0] rfl) hf
set_option maxRecDepth 100000 in
set_option maxHeartbeats 4000000 in
theorem c5_adds (l : Launch) {D : va_G} {cI cZ : ClassId} {ad : Nat → Nat} {v0 v1 v2 v3 v4 v5 v6 v7 v8 : Nat → Int32} (hI : mInj ad) (sz : Nat) {t : Int32 × (Nat → Int32)} (hf : f5_adds_0 v1 = some t) : Met l yX5_adds uX5_adds rm5_adds (va_Pc [.ref (ad 0)] (fun U => U.heap.size = sz ∧ mB D cI cZ ad v0 v1 v2 v3 v4 v5 v6 v7 v8 U)) (va_Qi (fun (r9 : Int32) (_ : Unit) => r9 = t.1) (fun _ t9 => mB D cI cZ ad v0 t.2 v2 v3 v4 v5 v6 v7 v8 t9) (mA ad sz)) 0 0 (mA ad sz) := by
  refine Met.ofW (cc := cX5_adds) (maxL := 3) (ret := (some .int)) (by decide) rfl ?_
  intro p e s m args below meth c s₁ B hml hv
  obtain ⟨rfl, hsz, hP, hK⟩ := hv
  subst hsz
  have X : mX D cI cZ p s m ([.ref (ad 0)] : List Value).toArray meth c cX5_adds 3 (some .int) := ⟨⟨B.exec, B.bytes, hml, findClass_of_methodNamed B.named, fun w h => atoms_spec (ws := uX5_adds) B.pre w (List.mem_cons_of_mem _ h)⟩, B.returns, B.notSynchronized, hK⟩
  have hl := lv_entry ([.ref (ad 0)]) (n := 3) (Nat.le_of_ble_eq_true rfl)
  rw [lg_entry_eq]
  generalize (lg_sl ([.ref (ad 0)]) ++ List.replicate (3 - (lg_sl ([.ref (ad 0)])).length) Slot.unset).toArray = ls at hl ⊢
  have hl : lv_has ls 3 [(0, .ref (ad 0))] := hl
  exact w5_adds_0 X hI ⟨hP, va_S.rf⟩ (lv_sub hl [0] rfl) hf
set_option maxRecDepth 100000 in
set_option maxHeartbeats 4000000 in
theorem k5_adds {p : Program} {l : Launch} {e : Env} {R : Room} {s : State} {m : MethodId} {args : Array Value} {below : List Frame} {meth : Method} {c : Code} {cc : ByteArray} {nL : Nat} {ret : Option FieldType} {D : va_G} {cI cZ : ClassId} {ad : Nat → Nat} {v0 v1 v2 v3 v4 v5 v6 v7 v8 : Nat → Int32} {H : Heap} {locs : List Loc} {cells slots : Nat} {Q : State → Prop} {pc : Nat} {ls : Array Slot} {rest : List Value} (X : mX D cI cZ p s m args meth c cc nL ret) (hI : mInj ad) (hH : mH D cI cZ ad v0 v1 v2 v3 v4 v5 v6 v7 v8 s H locs) (hls : ls.size = nL) {index : Nat} (hG : GoodIn gw (wsV RX5 index RX5 yX5_adds uX5_adds)) (hR : rm5_adds.frames + 1 ≤ R.frames ∧ 8 + (3 + 11) + rm5_adds.locals ≤ R.locals) {t : Int32 × (Nat → Int32)} (hf : f5_adds_0 v1 = some t) (hrest : (rest.map fun v => v.category).sum ≤ 8) (hdg : decode cc pc = .ok (.invokevirtual index, 3)) (hc : cells ≤ R.cells ∧ slots ≤ R.slots) (kk : ∀ (H1 : Heap) (locs1 : List Loc), mH D cI cZ ad v0 t.2 v2 v3 v4 v5 v6 v7 v8 s H1 locs1 → W p l e R s m args below meth c H1 locs1 cells slots Q (F0 m (pc + 3) ls (.int t.1 :: rest))) : W p l e R s m args below meth c H locs cells slots Q (F0 m pc ls (.ref (ad 0) :: rest)) := by
  have hA : ∀ q, mA ad H.size q → mA ad s.heap.size q := fun q h => h.elim Or.inl (fun h => Or.inr (Nat.le_trans hH.2.1 h))
  refine va_calli (va_runV (As := []) (rest := rest) X.1 (c5_adds l hI H.size hf) (cwV 0 X.1.2.2.2.2 hG rfl rfl rfl (by decide +kernel) hR) ⟨mBs_bl, va_recv X.2.2.2 hH.1 (ci := 5) (q0 := 0) rfl rfl, fun U hU hW => ⟨rfl, by rw [hU], by rw [hU]; exact hH.1, va_K.moved hW.alike X.2.2.2⟩⟩ rfl rfl hls rfl (lv_room hrest) hdg hc) hH.2 (fun q _ h => hA q h) hA (fun r9 u t9 H1 locs1 ht hvm hw hB hz1 hk1 hS => ?_)
  subst hw
  exact kk H1 locs1 ⟨by rw [← ht]; exact hB.1, hS⟩
/-! OreRailwayModel.car()I -/
def rm5_car : Room := { frames := 2, cells := 0, slots := 0, locals := 43 }
def f5_car_19 (y0 : Int32) (v0 : Nat → Int32) (v1 : Nat → Int32) (v3 : Nat → Int32) : Option (Int32 × (Nat → Int32) × (Nat → Int32) × (Nat → Int32)) := Option.bind (f5_refused_0 y0 v0) (fun t1 => if t1.1 = 0 then (Option.bind (f5_saves_0 v1 t1.2 v3) (fun t3 => Option.bind (f5_adds_0 v1) (fun t4 => some (t4.1, t3.1, t4.2, t3.2)))) else (some (0, t1.2, v1, v3)))
set_option maxRecDepth 100000 in
set_option maxHeartbeats 4000000 in
theorem w5_car_19 {p : Program} {l : Launch} {e : Env} {s : State} {m : MethodId} {args : Array Value} {below : List Frame} {meth : Method} {c : Code} {D : va_G} {cI cZ : ClassId} {ad : Nat → Nat} {v0 v1 v2 v3 v4 v5 v6 v7 v8 : Nat → Int32} (X : mX D cI cZ p s m args meth c cX5_car 1 (some .int)) (hI : mInj ad) {y0 : Int32} {t : Int32 × (Nat → Int32) × (Nat → Int32) × (Nat → Int32)}  {H : Heap} {locs : List Loc} (hH : mH D cI cZ ad v0 v1 v2 v3 v4 v5 v6 v7 v8 s H locs) {ls : Array Slot} (hl : lv_has ls 1 [(0, .ref (ad 0))]) (hf : f5_car_19 y0 v0 v1 v3 = some t) : W p l e rm5_car s m args below meth c H locs 0 0 (MQ below (va_Qi (fun (r9 : Int32) (_ : Unit) => r9 = t.1) (fun _ t9 => mB D cI cZ ad t.2.1 t.2.2.1 v2 t.2.2.2 v4 v5 v6 v7 v8 t9) (mA ad s.heap.size)) args s 0 0 (mA ad s.heap.size)) (F0 m 19 ls [.int y0, .ref (ad 0)]) := by
  obtain ⟨⟨hx, hb, hml, hown, hts⟩, hr, hlk, hK⟩ := id X
  replace hf : (Option.bind (f5_refused_0 y0 v0) (fun t1 => if t1.1 = 0 then (Option.bind (f5_saves_0 v1 t1.2 v3) (fun t3 => Option.bind (f5_adds_0 v1) (fun t4 => some (t4.1, t3.1, t4.2, t3.2)))) else (some (0, t1.2, v1, v3)))) = some t := hf
  obtain ⟨t1, ht1, hf⟩ := bd_o hf
  refine k5_refused X hI hH hl.1 qX5_50 ⟨Nat.le_of_ble_eq_true rfl, Nat.le_of_ble_eq_true rfl⟩ ht1 (Nat.le_of_ble_eq_true rfl) dX5_car_19 ⟨Nat.zero_le _, Nat.zero_le _⟩ (fun H locs hH => ?_)
  refine lv_if_eq (tgt := 27) hx hb dX5_car_22 (by decide) (fun c2 => ?_) (fun c2 => ?_)
  · have hf := it_t c2 hf
    refine lv_aload_n hx hb dX5_car_27 rfl (lv_at hl 0 rfl) ?_
    obtain ⟨t3, ht3, hf⟩ := bd_o hf
    refine k5_saves X hI hH hl.1 qX5_54 ⟨Nat.le_of_ble_eq_true rfl, Nat.le_of_ble_eq_true rfl⟩ ht3 (Nat.le_of_ble_eq_true rfl) dX5_car_28 ⟨Nat.zero_le _, Nat.zero_le _⟩ (fun H locs hH => ?_)
    refine lv_aload_n hx hb dX5_car_31 rfl (lv_at hl 0 rfl) ?_
    obtain ⟨t4, ht4, hf⟩ := bd_o hf
    refine k5_adds X hI hH hl.1 qX5_61 ⟨Nat.le_of_ble_eq_true rfl, Nat.le_of_ble_eq_true rfl⟩ ht4 (Nat.le_of_ble_eq_true rfl) dX5_car_32 ⟨Nat.zero_le _, Nat.zero_le _⟩ (fun H locs hH => ?_)
    obtain rfl := so_i hf
    exact mr_iw X hH rfl dX5_car_35
  · have hf := it_f c2 hf
    refine lv_iconst (v := 0) hx hb dX5_car_25 (by decide) ?_
    obtain rfl := so_i hf
    exact mr_iw X hH rfl dX5_car_26
def f5_car_0 (v0 : Nat → Int32) (v1 : Nat → Int32) (v3 : Nat → Int32) : Option (Int32 × (Nat → Int32) × (Nat → Int32) × (Nat → Int32)) := gd 162 171 (if (v1 (Int32.toNatClampNeg 162)) = 8 then (f5_car_19 1 v0 v1 v3) else (f5_car_19 0 v0 v1 v3))
set_option maxRecDepth 100000 in
set_option maxHeartbeats 4000000 in
theorem w5_car_0 {p : Program} {l : Launch} {e : Env} {s : State} {m : MethodId} {args : Array Value} {below : List Frame} {meth : Method} {c : Code} {D : va_G} {cI cZ : ClassId} {ad : Nat → Nat} {v0 v1 v2 v3 v4 v5 v6 v7 v8 : Nat → Int32} (X : mX D cI cZ p s m args meth c cX5_car 1 (some .int)) (hI : mInj ad) {t : Int32 × (Nat → Int32) × (Nat → Int32) × (Nat → Int32)}  {H : Heap} {locs : List Loc} (hH : mH D cI cZ ad v0 v1 v2 v3 v4 v5 v6 v7 v8 s H locs) {ls : Array Slot} (hl : lv_has ls 1 [(0, .ref (ad 0))]) (hf : f5_car_0 v0 v1 v3 = some t) : W p l e rm5_car s m args below meth c H locs 0 0 (MQ below (va_Qi (fun (r9 : Int32) (_ : Unit) => r9 = t.1) (fun _ t9 => mB D cI cZ ad t.2.1 t.2.2.1 v2 t.2.2.2 v4 v5 v6 v7 v8 t9) (mA ad s.heap.size)) args s 0 0 (mA ad s.heap.size)) (F0 m 0 ls []) := by
  obtain ⟨⟨hx, hb, hml, hown, hts⟩, hr, hlk, hK⟩ := id X
  replace hf : (gd 162 171 (if (v1 (Int32.toNatClampNeg 162)) = 8 then (f5_car_19 1 v0 v1 v3) else (f5_car_19 0 v0 v1 v3))) = some t := hf
  refine lv_aload_n hx hb dX5_car_0 rfl (lv_at hl 0 rfl) ?_
  refine lv_aload_n hx hb dX5_car_1 rfl (lv_at hl 0 rfl) ?_
  refine mr_get X hH.1 (k := 0) (v := .ref (ad 1)) (by decide) gfX5_7 rfl dX5_car_2 ?_
  refine lv_sipush (v := 162) hx hb dX5_car_5 (by decide) ?_
  obtain ⟨hi1, hf⟩ := gd_o hf
  refine mr_ld1 X hH.1 hi1 dX5_car_8 ?_
  refine lv_bipush (v := 8) hx hb dX5_car_9 (by decide) ?_
  refine lv_icmp_ne (tgt := 18) hx hb dX5_car_11 (by decide) (fun c2 => ?_) (fun c2 => ?_)
  · have hf := it_f c2 hf
    refine lv_iconst (v := 0) hx hb dX5_car_18 (by decide) ?_
    exact w5_car_19 X hI hH (lv_sub hl [0] rfl) hf
  · have hf := it_t c2 hf
    refine lv_iconst (v := 1) hx hb dX5_car_14 (by decide) ?_
    refine lv_goto (tgt := 19) hx hb dX5_car_15 (by decide) ?_
    exact w5_car_19 X hI hH (lv_sub hl [0] rfl) hf
set_option maxRecDepth 100000 in
set_option maxHeartbeats 4000000 in
theorem c5_car (l : Launch) {D : va_G} {cI cZ : ClassId} {ad : Nat → Nat} {v0 v1 v2 v3 v4 v5 v6 v7 v8 : Nat → Int32} (hI : mInj ad) (sz : Nat) {t : Int32 × (Nat → Int32) × (Nat → Int32) × (Nat → Int32)} (hf : f5_car_0 v0 v1 v3 = some t) : Met l yX5_car uX5_car rm5_car (va_Pc [.ref (ad 0)] (fun U => U.heap.size = sz ∧ mB D cI cZ ad v0 v1 v2 v3 v4 v5 v6 v7 v8 U)) (va_Qi (fun (r9 : Int32) (_ : Unit) => r9 = t.1) (fun _ t9 => mB D cI cZ ad t.2.1 t.2.2.1 v2 t.2.2.2 v4 v5 v6 v7 v8 t9) (mA ad sz)) 0 0 (mA ad sz) := by
  refine Met.ofW (cc := cX5_car) (maxL := 1) (ret := (some .int)) (by decide) rfl ?_
  intro p e s m args below meth c s₁ B hml hv
  obtain ⟨rfl, hsz, hP, hK⟩ := hv
  subst hsz
  have X : mX D cI cZ p s m ([.ref (ad 0)] : List Value).toArray meth c cX5_car 1 (some .int) := ⟨⟨B.exec, B.bytes, hml, findClass_of_methodNamed B.named, fun w h => atoms_spec (ws := uX5_car) B.pre w (List.mem_cons_of_mem _ h)⟩, B.returns, B.notSynchronized, hK⟩
  have hl := lv_entry ([.ref (ad 0)]) (n := 1) (Nat.le_of_ble_eq_true rfl)
  rw [lg_entry_eq]
  generalize (lg_sl ([.ref (ad 0)]) ++ List.replicate (1 - (lg_sl ([.ref (ad 0)])).length) Slot.unset).toArray = ls at hl ⊢
  have hl : lv_has ls 1 [(0, .ref (ad 0))] := hl
  exact w5_car_0 X hI ⟨hP, va_S.rf⟩ (lv_sub hl [0] rfl) hf
set_option maxRecDepth 100000 in
set_option maxHeartbeats 4000000 in
theorem k5_car {p : Program} {l : Launch} {e : Env} {R : Room} {s : State} {m : MethodId} {args : Array Value} {below : List Frame} {meth : Method} {c : Code} {cc : ByteArray} {nL : Nat} {ret : Option FieldType} {D : va_G} {cI cZ : ClassId} {ad : Nat → Nat} {v0 v1 v2 v3 v4 v5 v6 v7 v8 : Nat → Int32} {H : Heap} {locs : List Loc} {cells slots : Nat} {Q : State → Prop} {pc : Nat} {ls : Array Slot} {rest : List Value} (X : mX D cI cZ p s m args meth c cc nL ret) (hI : mInj ad) (hH : mH D cI cZ ad v0 v1 v2 v3 v4 v5 v6 v7 v8 s H locs) (hls : ls.size = nL) {index : Nat} (hG : GoodIn gw (wsV RX5 index RX5 yX5_car uX5_car)) (hR : rm5_car.frames + 1 ≤ R.frames ∧ 8 + (1 + 11) + rm5_car.locals ≤ R.locals) {t : Int32 × (Nat → Int32) × (Nat → Int32) × (Nat → Int32)} (hf : f5_car_0 v0 v1 v3 = some t) (hrest : (rest.map fun v => v.category).sum ≤ 8) (hdg : decode cc pc = .ok (.invokevirtual index, 3)) (hc : cells ≤ R.cells ∧ slots ≤ R.slots) (kk : ∀ (H1 : Heap) (locs1 : List Loc), mH D cI cZ ad t.2.1 t.2.2.1 v2 t.2.2.2 v4 v5 v6 v7 v8 s H1 locs1 → W p l e R s m args below meth c H1 locs1 cells slots Q (F0 m (pc + 3) ls (.int t.1 :: rest))) : W p l e R s m args below meth c H locs cells slots Q (F0 m pc ls (.ref (ad 0) :: rest)) := by
  have hA : ∀ q, mA ad H.size q → mA ad s.heap.size q := fun q h => h.elim Or.inl (fun h => Or.inr (Nat.le_trans hH.2.1 h))
  refine va_calli (va_runV (As := []) (rest := rest) X.1 (c5_car l hI H.size hf) (cwV 0 X.1.2.2.2.2 hG rfl rfl rfl (by decide +kernel) hR) ⟨mBs_bl, va_recv X.2.2.2 hH.1 (ci := 5) (q0 := 0) rfl rfl, fun U hU hW => ⟨rfl, by rw [hU], by rw [hU]; exact hH.1, va_K.moved hW.alike X.2.2.2⟩⟩ rfl rfl hls rfl (lv_room hrest) hdg hc) hH.2 (fun q _ h => hA q h) hA (fun r9 u t9 H1 locs1 ht hvm hw hB hz1 hk1 hS => ?_)
  subst hw
  exact kk H1 locs1 ⟨by rw [← ht]; exact hB.1, hS⟩
/-! OreRailwayModel.barLoad(II)I -/
def rm5_barLoad : Room := { frames := 2, cells := 0, slots := 0, locals := 43 }
def f5_barLoad_57 (v1 : Nat → Int32) (y0 : Int32) : Option (Int32) := some y0
set_option maxRecDepth 100000 in
set_option maxHeartbeats 4000000 in
theorem w5_barLoad_57 {p : Program} {l : Launch} {e : Env} {s : State} {m : MethodId} {args : Array Value} {below : List Frame} {meth : Method} {c : Code} {D : va_G} {cI cZ : ClassId} {ad : Nat → Nat} {v0 v1 v2 v3 v4 v5 v6 v7 v8 : Nat → Int32} (X : mX D cI cZ p s m args meth c cX5_barLoad 3 (some .int)) (hP : va_P D vwCl (mwW cI cZ ad v0 v1 v2 v3 v4 v5 v6 v7 v8) s.heap) {y0 : Int32} {t : Int32}  {ls : Array Slot} (hl : lv_has ls 3 []) (hf : f5_barLoad_57 v1 y0 = some t) : W p l e rm5_barLoad s m args below meth c s.heap [] 0 0 (MQ below (QcRead t) args s 0 0 (fun _ => False)) (F0 m 57 ls [.int y0]) := by
  obtain ⟨⟨hx, hb, hml, hown, hts⟩, hr, hlk, hK⟩ := id X
  replace hf : (some y0) = some t := hf
  obtain rfl := so_i hf
  exact rd_i hx hb hr hlk dX5_barLoad_57
def f5_barLoad_52 (v1 : Nat → Int32) : Option (Int32) := f5_barLoad_57 v1 3
set_option maxRecDepth 100000 in
set_option maxHeartbeats 4000000 in
theorem w5_barLoad_52 {p : Program} {l : Launch} {e : Env} {s : State} {m : MethodId} {args : Array Value} {below : List Frame} {meth : Method} {c : Code} {D : va_G} {cI cZ : ClassId} {ad : Nat → Nat} {v0 v1 v2 v3 v4 v5 v6 v7 v8 : Nat → Int32} (X : mX D cI cZ p s m args meth c cX5_barLoad 3 (some .int)) (hP : va_P D vwCl (mwW cI cZ ad v0 v1 v2 v3 v4 v5 v6 v7 v8) s.heap) {t : Int32}  {ls : Array Slot} (hl : lv_has ls 3 []) (hf : f5_barLoad_52 v1  = some t) : W p l e rm5_barLoad s m args below meth c s.heap [] 0 0 (MQ below (QcRead t) args s 0 0 (fun _ => False)) (F0 m 52 ls []) := by
  obtain ⟨⟨hx, hb, hml, hown, hts⟩, hr, hlk, hK⟩ := id X
  replace hf : (f5_barLoad_57 v1 3) = some t := hf
  refine lv_iconst (v := 3) hx hb dX5_barLoad_52 (by decide) ?_
  refine lv_goto (tgt := 57) hx hb dX5_barLoad_53 (by decide) ?_
  exact w5_barLoad_57 X hP  (lv_sub hl [] rfl) hf
def f5_barLoad_0 (v1 : Nat → Int32) (x1 : Int32) (x2 : Int32) : Option (Int32) := Option.bind (f5_isCar_0 v1 x1) (fun t1 => if t1 = 0 then (f5_barLoad_57 v1 1) else (Option.bind (f5_in_0 x2 1 20) (fun t3 => if t3 = 0 then (f5_barLoad_57 v1 2) else (Option.bind (f5_isIn_0 v1 x1 0) (fun t5 => if t5 = 0 then (f5_barLoad_52 v1) else (gd (e5_of x1 1) 171 (if ((v1 (Int32.toNatClampNeg (e5_of x1 1))) + x2) ≤ 20 then (f5_barLoad_57 v1 0) else (f5_barLoad_52 v1))))))))
set_option maxRecDepth 100000 in
set_option maxHeartbeats 4000000 in
theorem w5_barLoad_0 {p : Program} {l : Launch} {e : Env} {s : State} {m : MethodId} {args : Array Value} {below : List Frame} {meth : Method} {c : Code} {D : va_G} {cI cZ : ClassId} {ad : Nat → Nat} {v0 v1 v2 v3 v4 v5 v6 v7 v8 : Nat → Int32} (X : mX D cI cZ p s m args meth c cX5_barLoad 3 (some .int)) (hP : va_P D vwCl (mwW cI cZ ad v0 v1 v2 v3 v4 v5 v6 v7 v8) s.heap) {x1 : Int32} {x2 : Int32} {t : Int32}  {ls : Array Slot} (hl : lv_has ls 3 [(0, .ref (ad 0)), (1, .int x1), (2, .int x2)]) (hf : f5_barLoad_0 v1 x1 x2 = some t) : W p l e rm5_barLoad s m args below meth c s.heap [] 0 0 (MQ below (QcRead t) args s 0 0 (fun _ => False)) (F0 m 0 ls []) := by
  obtain ⟨⟨hx, hb, hml, hown, hts⟩, hr, hlk, hK⟩ := id X
  replace hf : (Option.bind (f5_isCar_0 v1 x1) (fun t1 => if t1 = 0 then (f5_barLoad_57 v1 1) else (Option.bind (f5_in_0 x2 1 20) (fun t3 => if t3 = 0 then (f5_barLoad_57 v1 2) else (Option.bind (f5_isIn_0 v1 x1 0) (fun t5 => if t5 = 0 then (f5_barLoad_52 v1) else (gd (e5_of x1 1) 171 (if ((v1 (Int32.toNatClampNeg (e5_of x1 1))) + x2) ≤ 20 then (f5_barLoad_57 v1 0) else (f5_barLoad_52 v1))))))))) = some t := hf
  refine lv_aload_n hx hb dX5_barLoad_0 rfl (lv_at hl 0 rfl) ?_
  refine lv_iload_n hx hb dX5_barLoad_1 rfl (lv_at hl 1 rfl) ?_
  obtain ⟨t1, ht1, hf⟩ := bd_o hf
  refine k5_isCar X hP hl.1 qX5_64 ⟨Nat.le_of_ble_eq_true rfl, Nat.le_of_ble_eq_true rfl⟩ ht1 (Nat.le_of_ble_eq_true rfl) dX5_barLoad_2 ⟨Nat.zero_le _, Nat.zero_le _⟩ ?_
  refine lv_if_ne (tgt := 12) hx hb dX5_barLoad_5 (by decide) (fun c2 => ?_) (fun c2 => ?_)
  · have hf := it_f c2 hf
    refine lv_iload_n hx hb dX5_barLoad_12 rfl (lv_at hl 2 rfl) ?_
    refine lv_iconst (v := 1) hx hb dX5_barLoad_13 (by decide) ?_
    refine lv_bipush (v := 20) hx hb dX5_barLoad_14 (by decide) ?_
    obtain ⟨t3, ht3, hf⟩ := bd_o hf
    refine k5_in X.1 hl.1 qX5_39 ⟨Nat.le_of_ble_eq_true rfl, Nat.le_of_ble_eq_true rfl⟩ ht3 (Nat.le_of_ble_eq_true rfl) dX5_barLoad_16 ⟨Nat.zero_le _, Nat.zero_le _⟩ ?_
    refine lv_if_ne (tgt := 26) hx hb dX5_barLoad_19 (by decide) (fun c4 => ?_) (fun c4 => ?_)
    · have hf := it_f c4 hf
      refine lv_aload_n hx hb dX5_barLoad_26 rfl (lv_at hl 0 rfl) ?_
      refine lv_iload_n hx hb dX5_barLoad_27 rfl (lv_at hl 1 rfl) ?_
      refine lv_iconst (v := 0) hx hb dX5_barLoad_28 (by decide) ?_
      obtain ⟨t5, ht5, hf⟩ := bd_o hf
      refine k5_isIn X hP hl.1 qX5_67 ⟨Nat.le_of_ble_eq_true rfl, Nat.le_of_ble_eq_true rfl⟩ ht5 (Nat.le_of_ble_eq_true rfl) dX5_barLoad_29 ⟨Nat.zero_le _, Nat.zero_le _⟩ ?_
      refine lv_if_eq (tgt := 52) hx hb dX5_barLoad_32 (by decide) (fun c6 => ?_) (fun c6 => ?_)
      · have hf := it_t c6 hf
        exact w5_barLoad_52 X hP  (lv_sub hl [] rfl) hf
      · have hf := it_f c6 hf
        refine lv_aload_n hx hb dX5_barLoad_35 rfl (lv_at hl 0 rfl) ?_
        refine mr_get X hP (k := 0) (v := .ref (ad 1)) (by decide) gfX5_7 rfl dX5_barLoad_36 ?_
        refine lv_iload_n hx hb dX5_barLoad_39 rfl (lv_at hl 1 rfl) ?_
        refine lv_iconst (v := 1) hx hb dX5_barLoad_40 (by decide) ?_
        refine k5_of X.1 hl.1 qX5_43 ⟨Nat.le_of_ble_eq_true rfl, Nat.le_of_ble_eq_true rfl⟩ (Nat.le_of_ble_eq_true rfl) dX5_barLoad_41 ⟨Nat.zero_le _, Nat.zero_le _⟩ ?_
        obtain ⟨hi7, hf⟩ := gd_o hf
        refine mr_ld1 X hP hi7 dX5_barLoad_44 ?_
        refine lv_iload_n hx hb dX5_barLoad_45 rfl (lv_at hl 2 rfl) ?_
        refine lv_iadd hx hb dX5_barLoad_46 ?_
        refine lv_bipush (v := 20) hx hb dX5_barLoad_47 (by decide) ?_
        refine lv_icmp_le (tgt := 56) hx hb dX5_barLoad_49 (by decide) (fun c8 => ?_) (fun c8 => ?_)
        · have hf := it_t c8 hf
          refine lv_iconst (v := 0) hx hb dX5_barLoad_56 (by decide) ?_
          exact w5_barLoad_57 X hP  (lv_sub hl [] rfl) hf
        · have hf := it_f c8 hf
          exact w5_barLoad_52 X hP  (lv_sub hl [] rfl) hf
    · have hf := it_t c4 hf
      refine lv_iconst (v := 2) hx hb dX5_barLoad_22 (by decide) ?_
      refine lv_goto (tgt := 57) hx hb dX5_barLoad_23 (by decide) ?_
      exact w5_barLoad_57 X hP  (lv_sub hl [] rfl) hf
  · have hf := it_t c2 hf
    refine lv_iconst (v := 1) hx hb dX5_barLoad_8 (by decide) ?_
    refine lv_goto (tgt := 57) hx hb dX5_barLoad_9 (by decide) ?_
    exact w5_barLoad_57 X hP  (lv_sub hl [] rfl) hf
set_option maxRecDepth 100000 in
set_option maxHeartbeats 4000000 in
theorem c5_barLoad (l : Launch) {D : va_G} {cI cZ : ClassId} {ad : Nat → Nat} {v0 v1 v2 v3 v4 v5 v6 v7 v8 : Nat → Int32} (x1 : Int32) (x2 : Int32) {t : Int32} (hf : f5_barLoad_0 v1 x1 x2 = some t) : Met l yX5_barLoad uX5_barLoad rm5_barLoad (va_Pc [.ref (ad 0), .int x1, .int x2] (mB D cI cZ ad v0 v1 v2 v3 v4 v5 v6 v7 v8)) (QcRead t) 0 0 (fun _ => False) := by
  refine Met.ofW (cc := cX5_barLoad) (maxL := 3) (ret := (some .int)) (by decide) rfl ?_
  intro p e s m args below meth c s₁ B hml hv
  obtain ⟨rfl, hP, hK⟩ := hv
  have X : mX D cI cZ p s m ([.ref (ad 0), .int x1, .int x2] : List Value).toArray meth c cX5_barLoad 3 (some .int) := ⟨⟨B.exec, B.bytes, hml, findClass_of_methodNamed B.named, fun w h => atoms_spec (ws := uX5_barLoad) B.pre w (List.mem_cons_of_mem _ h)⟩, B.returns, B.notSynchronized, hK⟩
  have hl := lv_entry ([.ref (ad 0), .int x1, .int x2]) (n := 3) (Nat.le_of_ble_eq_true rfl)
  rw [lg_entry_eq]
  generalize (lg_sl ([.ref (ad 0), .int x1, .int x2]) ++ List.replicate (3 - (lg_sl ([.ref (ad 0), .int x1, .int x2])).length) Slot.unset).toArray = ls at hl ⊢
  have hl : lv_has ls 3 [(0, .ref (ad 0)), (1, .int x1), (2, .int x2)] := hl
  exact w5_barLoad_0 X hP (lv_sub hl [0, 1, 2] rfl) hf
set_option maxRecDepth 100000 in
set_option maxHeartbeats 4000000 in
theorem k5_barLoad {p : Program} {l : Launch} {e : Env} {R : Room} {s : State} {m : MethodId} {args : Array Value} {below : List Frame} {meth : Method} {c : Code} {cc : ByteArray} {nL : Nat} {ret : Option FieldType} {D : va_G} {cI cZ : ClassId} {ad : Nat → Nat} {v0 v1 v2 v3 v4 v5 v6 v7 v8 : Nat → Int32} {H : Heap} {locs : List Loc} {cells slots : Nat} {Q : State → Prop} {pc : Nat} {ls : Array Slot} {rest : List Value} (X : mX D cI cZ p s m args meth c cc nL ret) (hP : va_P D vwCl (mwW cI cZ ad v0 v1 v2 v3 v4 v5 v6 v7 v8) H) (hls : ls.size = nL) {index : Nat} (hG : GoodIn gw (wsV RX5 index RX5 yX5_barLoad uX5_barLoad)) (hR : rm5_barLoad.frames + 1 ≤ R.frames ∧ 8 + (3 + 11) + rm5_barLoad.locals ≤ R.locals) {x1 : Int32} {x2 : Int32} {t : Int32} (hf : f5_barLoad_0 v1 x1 x2 = some t) (hrest : (rest.map fun v => v.category).sum ≤ 8) (hdg : decode cc pc = .ok (.invokevirtual index, 3)) (hc : cells ≤ R.cells ∧ slots ≤ R.slots) (kk : W p l e R s m args below meth c H locs cells slots Q (F0 m (pc + 3) ls (.int t :: rest))) : W p l e R s m args below meth c H locs cells slots Q (F0 m pc ls (.int x2 :: .int x1 :: .ref (ad 0) :: rest)) :=
  W.callR (W.runV (As := [.int x1, .int x2]) X.1 (c5_barLoad l x1 x2 hf) (cwV 2 X.1.2.2.2.2 hG rfl rfl rfl (by decide +kernel) hR) ⟨mB_bl, va_recv X.2.2.2 hP (ci := 5) (q0 := 0) rfl rfl, fun U hU hW => ⟨rfl, by rw [hU]; exact hP, va_K.moved hW.alike X.2.2.2⟩⟩ rfl rfl hls rfl (lv_room hrest) hdg hc) kk
/-! OreRailwayModel.loads(II)I -/
def rm5_loads : Room := { frames := 1, cells := 0, slots := 0, locals := 21 }
def f5_loads_26 (x1 : Int32) (v1 : Nat → Int32) : Option (Int32 × (Nat → Int32)) := gd (e5_of x1 1) 171 (some (v1 (Int32.toNatClampNeg (e5_of x1 1)), v1))
set_option maxRecDepth 100000 in
set_option maxHeartbeats 4000000 in
theorem w5_loads_26 {p : Program} {l : Launch} {e : Env} {s : State} {m : MethodId} {args : Array Value} {below : List Frame} {meth : Method} {c : Code} {D : va_G} {cI cZ : ClassId} {ad : Nat → Nat} {v0 v1 v2 v3 v4 v5 v6 v7 v8 : Nat → Int32} (X : mX D cI cZ p s m args meth c cX5_loads 3 (some .int)) (hI : mInj ad) {x1 : Int32} {t : Int32 × (Nat → Int32)}  {H : Heap} {locs : List Loc} (hH : mH D cI cZ ad v0 v1 v2 v3 v4 v5 v6 v7 v8 s H locs) {ls : Array Slot} (hl : lv_has ls 3 [(0, .ref (ad 0)), (1, .int x1)]) (hf : f5_loads_26 x1 v1 = some t) : W p l e rm5_loads s m args below meth c H locs 0 0 (MQ below (va_Qi (fun (r9 : Int32) (_ : Unit) => r9 = t.1) (fun _ t9 => mB D cI cZ ad v0 t.2 v2 v3 v4 v5 v6 v7 v8 t9) (mA ad s.heap.size)) args s 0 0 (mA ad s.heap.size)) (F0 m 26 ls []) := by
  obtain ⟨⟨hx, hb, hml, hown, hts⟩, hr, hlk, hK⟩ := id X
  replace hf : (gd (e5_of x1 1) 171 (some (v1 (Int32.toNatClampNeg (e5_of x1 1)), v1))) = some t := hf
  refine lv_aload_n hx hb dX5_loads_26 rfl (lv_at hl 0 rfl) ?_
  refine mr_get X hH.1 (k := 0) (v := .ref (ad 1)) (by decide) gfX5_7 rfl dX5_loads_27 ?_
  refine lv_iload_n hx hb dX5_loads_30 rfl (lv_at hl 1 rfl) ?_
  refine lv_iconst (v := 1) hx hb dX5_loads_31 (by decide) ?_
  refine k5_of X.1 hl.1 qX5_43 ⟨Nat.le_of_ble_eq_true rfl, Nat.le_of_ble_eq_true rfl⟩ (Nat.le_of_ble_eq_true rfl) dX5_loads_32 ⟨Nat.zero_le _, Nat.zero_le _⟩ ?_
  obtain ⟨hi1, hf⟩ := gd_o hf
  refine mr_ld1 X hH.1 hi1 dX5_loads_35 ?_
  obtain rfl := so_i hf
  exact mr_iw X hH rfl dX5_loads_36
def f5_loads_0 (x1 : Int32) (x2 : Int32) (v1 : Nat → Int32) : Option (Int32 × (Nat → Int32)) := gd (e5_of x1 1) 171 (gd (e5_of x1 1) 171 (gd 164 171 (gd 164 171 (f5_loads_26 x1 (upd (upd v1 (Int32.toNatClampNeg (e5_of x1 1)) ((v1 (Int32.toNatClampNeg (e5_of x1 1))) + x2)) (Int32.toNatClampNeg 164) (((upd v1 (Int32.toNatClampNeg (e5_of x1 1)) ((v1 (Int32.toNatClampNeg (e5_of x1 1))) + x2)) (Int32.toNatClampNeg 164)) + x2))))))
set_option maxRecDepth 100000 in
set_option maxHeartbeats 4000000 in
theorem w5_loads_0 {p : Program} {l : Launch} {e : Env} {s : State} {m : MethodId} {args : Array Value} {below : List Frame} {meth : Method} {c : Code} {D : va_G} {cI cZ : ClassId} {ad : Nat → Nat} {v0 v1 v2 v3 v4 v5 v6 v7 v8 : Nat → Int32} (X : mX D cI cZ p s m args meth c cX5_loads 3 (some .int)) (hI : mInj ad) {x1 : Int32} {x2 : Int32} {t : Int32 × (Nat → Int32)}  {H : Heap} {locs : List Loc} (hH : mH D cI cZ ad v0 v1 v2 v3 v4 v5 v6 v7 v8 s H locs) {ls : Array Slot} (hl : lv_has ls 3 [(0, .ref (ad 0)), (1, .int x1), (2, .int x2)]) (hf : f5_loads_0 x1 x2 v1 = some t) : W p l e rm5_loads s m args below meth c H locs 0 0 (MQ below (va_Qi (fun (r9 : Int32) (_ : Unit) => r9 = t.1) (fun _ t9 => mB D cI cZ ad v0 t.2 v2 v3 v4 v5 v6 v7 v8 t9) (mA ad s.heap.size)) args s 0 0 (mA ad s.heap.size)) (F0 m 0 ls []) := by
  obtain ⟨⟨hx, hb, hml, hown, hts⟩, hr, hlk, hK⟩ := id X
  replace hf : (gd (e5_of x1 1) 171 (gd (e5_of x1 1) 171 (gd 164 171 (gd 164 171 (f5_loads_26 x1 (upd (upd v1 (Int32.toNatClampNeg (e5_of x1 1)) ((v1 (Int32.toNatClampNeg (e5_of x1 1))) + x2)) (Int32.toNatClampNeg 164) (((upd v1 (Int32.toNatClampNeg (e5_of x1 1)) ((v1 (Int32.toNatClampNeg (e5_of x1 1))) + x2)) (Int32.toNatClampNeg 164)) + x2))))))) = some t := hf
  refine lv_aload_n hx hb dX5_loads_0 rfl (lv_at hl 0 rfl) ?_
  refine mr_get X hH.1 (k := 0) (v := .ref (ad 1)) (by decide) gfX5_7 rfl dX5_loads_1 ?_
  refine lv_iload_n hx hb dX5_loads_4 rfl (lv_at hl 1 rfl) ?_
  refine lv_iconst (v := 1) hx hb dX5_loads_5 (by decide) ?_
  refine k5_of X.1 hl.1 qX5_43 ⟨Nat.le_of_ble_eq_true rfl, Nat.le_of_ble_eq_true rfl⟩ (Nat.le_of_ble_eq_true rfl) dX5_loads_6 ⟨Nat.zero_le _, Nat.zero_le _⟩ ?_
  refine lv_dup2_11 hx hb dX5_loads_9 rfl rfl ?_
  obtain ⟨hi1, hf⟩ := gd_o hf
  refine mr_ld1 X hH.1 hi1 dX5_loads_10 ?_
  refine lv_iload_n hx hb dX5_loads_11 rfl (lv_at hl 2 rfl) ?_
  refine lv_iadd hx hb dX5_loads_12 ?_
  obtain ⟨hi2, hf⟩ := gd_o hf
  refine mr_st1 X hI hH hi2 dX5_loads_13 (fun H locs hH => ?_)
  refine lv_aload_n hx hb dX5_loads_14 rfl (lv_at hl 0 rfl) ?_
  refine mr_get X hH.1 (k := 0) (v := .ref (ad 1)) (by decide) gfX5_7 rfl dX5_loads_15 ?_
  refine lv_sipush (v := 164) hx hb dX5_loads_18 (by decide) ?_
  refine lv_dup2_11 hx hb dX5_loads_21 rfl rfl ?_
  obtain ⟨hi3, hf⟩ := gd_o hf
  refine mr_ld1 X hH.1 hi3 dX5_loads_22 ?_
  refine lv_iload_n hx hb dX5_loads_23 rfl (lv_at hl 2 rfl) ?_
  refine lv_iadd hx hb dX5_loads_24 ?_
  obtain ⟨hi4, hf⟩ := gd_o hf
  refine mr_st1 X hI hH hi4 dX5_loads_25 (fun H locs hH => ?_)
  exact w5_loads_26 X hI hH (lv_sub hl [0, 1] rfl) hf
set_option maxRecDepth 100000 in
set_option maxHeartbeats 4000000 in
theorem c5_loads (l : Launch) {D : va_G} {cI cZ : ClassId} {ad : Nat → Nat} {v0 v1 v2 v3 v4 v5 v6 v7 v8 : Nat → Int32} (hI : mInj ad) (sz : Nat) (x1 : Int32) (x2 : Int32) {t : Int32 × (Nat → Int32)} (hf : f5_loads_0 x1 x2 v1 = some t) : Met l yX5_loads uX5_loads rm5_loads (va_Pc [.ref (ad 0), .int x1, .int x2] (fun U => U.heap.size = sz ∧ mB D cI cZ ad v0 v1 v2 v3 v4 v5 v6 v7 v8 U)) (va_Qi (fun (r9 : Int32) (_ : Unit) => r9 = t.1) (fun _ t9 => mB D cI cZ ad v0 t.2 v2 v3 v4 v5 v6 v7 v8 t9) (mA ad sz)) 0 0 (mA ad sz) := by
  refine Met.ofW (cc := cX5_loads) (maxL := 3) (ret := (some .int)) (by decide) rfl ?_
  intro p e s m args below meth c s₁ B hml hv
  obtain ⟨rfl, hsz, hP, hK⟩ := hv
  subst hsz
  have X : mX D cI cZ p s m ([.ref (ad 0), .int x1, .int x2] : List Value).toArray meth c cX5_loads 3 (some .int) := ⟨⟨B.exec, B.bytes, hml, findClass_of_methodNamed B.named, fun w h => atoms_spec (ws := uX5_loads) B.pre w (List.mem_cons_of_mem _ h)⟩, B.returns, B.notSynchronized, hK⟩
  have hl := lv_entry ([.ref (ad 0), .int x1, .int x2]) (n := 3) (Nat.le_of_ble_eq_true rfl)
  rw [lg_entry_eq]
  generalize (lg_sl ([.ref (ad 0), .int x1, .int x2]) ++ List.replicate (3 - (lg_sl ([.ref (ad 0), .int x1, .int x2])).length) Slot.unset).toArray = ls at hl ⊢
  have hl : lv_has ls 3 [(0, .ref (ad 0)), (1, .int x1), (2, .int x2)] := hl
  exact w5_loads_0 X hI ⟨hP, va_S.rf⟩ (lv_sub hl [0, 1, 2] rfl) hf
set_option maxRecDepth 100000 in
set_option maxHeartbeats 4000000 in
theorem k5_loads {p : Program} {l : Launch} {e : Env} {R : Room} {s : State} {m : MethodId} {args : Array Value} {below : List Frame} {meth : Method} {c : Code} {cc : ByteArray} {nL : Nat} {ret : Option FieldType} {D : va_G} {cI cZ : ClassId} {ad : Nat → Nat} {v0 v1 v2 v3 v4 v5 v6 v7 v8 : Nat → Int32} {H : Heap} {locs : List Loc} {cells slots : Nat} {Q : State → Prop} {pc : Nat} {ls : Array Slot} {rest : List Value} (X : mX D cI cZ p s m args meth c cc nL ret) (hI : mInj ad) (hH : mH D cI cZ ad v0 v1 v2 v3 v4 v5 v6 v7 v8 s H locs) (hls : ls.size = nL) {index : Nat} (hG : GoodIn gw (wsV RX5 index RX5 yX5_loads uX5_loads)) (hR : rm5_loads.frames + 1 ≤ R.frames ∧ 8 + (3 + 11) + rm5_loads.locals ≤ R.locals) {x1 : Int32} {x2 : Int32} {t : Int32 × (Nat → Int32)} (hf : f5_loads_0 x1 x2 v1 = some t) (hrest : (rest.map fun v => v.category).sum ≤ 8) (hdg : decode cc pc = .ok (.invokevirtual index, 3)) (hc : cells ≤ R.cells ∧ slots ≤ R.slots) (kk : ∀ (H1 : Heap) (locs1 : List Loc), mH D cI cZ ad v0 t.2 v2 v3 v4 v5 v6 v7 v8 s H1 locs1 → W p l e R s m args below meth c H1 locs1 cells slots Q (F0 m (pc + 3) ls (.int t.1 :: rest))) : W p l e R s m args below meth c H locs cells slots Q (F0 m pc ls (.int x2 :: .int x1 :: .ref (ad 0) :: rest)) := by
  have hA : ∀ q, mA ad H.size q → mA ad s.heap.size q := fun q h => h.elim Or.inl (fun h => Or.inr (Nat.le_trans hH.2.1 h))
  refine va_calli (va_runV (As := [.int x1, .int x2]) (rest := rest) X.1 (c5_loads l hI H.size x1 x2 hf) (cwV 2 X.1.2.2.2.2 hG rfl rfl rfl (by decide +kernel) hR) ⟨mBs_bl, va_recv X.2.2.2 hH.1 (ci := 5) (q0 := 0) rfl rfl, fun U hU hW => ⟨rfl, by rw [hU], by rw [hU]; exact hH.1, va_K.moved hW.alike X.2.2.2⟩⟩ rfl rfl hls rfl (lv_room hrest) hdg hc) hH.2 (fun q _ h => hA q h) hA (fun r9 u t9 H1 locs1 ht hvm hw hB hz1 hk1 hS => ?_)
  subst hw
  exact kk H1 locs1 ⟨by rw [← ht]; exact hB.1, hS⟩
/-! OreRailwayModel.load(II)I -/
def rm5_load : Room := { frames := 3, cells := 0, slots := 0, locals := 65 }
def f5_load_0 (x1 : Int32) (x2 : Int32) (v0 : Nat → Int32) (v1 : Nat → Int32) (v3 : Nat → Int32) : Option (Int32 × (Nat → Int32) × (Nat → Int32) × (Nat → Int32)) := Option.bind (f5_barLoad_0 v1 x1 x2) (fun t1 => Option.bind (f5_refused_0 t1 v0) (fun t2 => if t2.1 = 0 then (Option.bind (f5_saves_0 v1 t2.2 v3) (fun t4 => Option.bind (f5_loads_0 x1 x2 v1) (fun t5 => some (t5.1, t4.1, t5.2, t4.2)))) else (some (0, t2.2, v1, v3))))
set_option maxRecDepth 100000 in
set_option maxHeartbeats 4000000 in
theorem w5_load_0 {p : Program} {l : Launch} {e : Env} {s : State} {m : MethodId} {args : Array Value} {below : List Frame} {meth : Method} {c : Code} {D : va_G} {cI cZ : ClassId} {ad : Nat → Nat} {v0 v1 v2 v3 v4 v5 v6 v7 v8 : Nat → Int32} (X : mX D cI cZ p s m args meth c cX5_load 3 (some .int)) (hI : mInj ad) {x1 : Int32} {x2 : Int32} {t : Int32 × (Nat → Int32) × (Nat → Int32) × (Nat → Int32)}  {H : Heap} {locs : List Loc} (hH : mH D cI cZ ad v0 v1 v2 v3 v4 v5 v6 v7 v8 s H locs) {ls : Array Slot} (hl : lv_has ls 3 [(0, .ref (ad 0)), (1, .int x1), (2, .int x2)]) (hf : f5_load_0 x1 x2 v0 v1 v3 = some t) : W p l e rm5_load s m args below meth c H locs 0 0 (MQ below (va_Qi (fun (r9 : Int32) (_ : Unit) => r9 = t.1) (fun _ t9 => mB D cI cZ ad t.2.1 t.2.2.1 v2 t.2.2.2 v4 v5 v6 v7 v8 t9) (mA ad s.heap.size)) args s 0 0 (mA ad s.heap.size)) (F0 m 0 ls []) := by
  obtain ⟨⟨hx, hb, hml, hown, hts⟩, hr, hlk, hK⟩ := id X
  replace hf : (Option.bind (f5_barLoad_0 v1 x1 x2) (fun t1 => Option.bind (f5_refused_0 t1 v0) (fun t2 => if t2.1 = 0 then (Option.bind (f5_saves_0 v1 t2.2 v3) (fun t4 => Option.bind (f5_loads_0 x1 x2 v1) (fun t5 => some (t5.1, t4.1, t5.2, t4.2)))) else (some (0, t2.2, v1, v3))))) = some t := hf
  refine lv_aload_n hx hb dX5_load_0 rfl (lv_at hl 0 rfl) ?_
  refine lv_aload_n hx hb dX5_load_1 rfl (lv_at hl 0 rfl) ?_
  refine lv_iload_n hx hb dX5_load_2 rfl (lv_at hl 1 rfl) ?_
  refine lv_iload_n hx hb dX5_load_3 rfl (lv_at hl 2 rfl) ?_
  obtain ⟨t1, ht1, hf⟩ := bd_o hf
  refine k5_barLoad X hH.1 hl.1 qX5_71 ⟨Nat.le_of_ble_eq_true rfl, Nat.le_of_ble_eq_true rfl⟩ ht1 (Nat.le_of_ble_eq_true rfl) dX5_load_4 ⟨Nat.zero_le _, Nat.zero_le _⟩ ?_
  obtain ⟨t2, ht2, hf⟩ := bd_o hf
  refine k5_refused X hI hH hl.1 qX5_50 ⟨Nat.le_of_ble_eq_true rfl, Nat.le_of_ble_eq_true rfl⟩ ht2 (Nat.le_of_ble_eq_true rfl) dX5_load_7 ⟨Nat.zero_le _, Nat.zero_le _⟩ (fun H locs hH => ?_)
  refine lv_if_eq (tgt := 15) hx hb dX5_load_10 (by decide) (fun c3 => ?_) (fun c3 => ?_)
  · have hf := it_t c3 hf
    refine lv_aload_n hx hb dX5_load_15 rfl (lv_at hl 0 rfl) ?_
    obtain ⟨t4, ht4, hf⟩ := bd_o hf
    refine k5_saves X hI hH hl.1 qX5_54 ⟨Nat.le_of_ble_eq_true rfl, Nat.le_of_ble_eq_true rfl⟩ ht4 (Nat.le_of_ble_eq_true rfl) dX5_load_16 ⟨Nat.zero_le _, Nat.zero_le _⟩ (fun H locs hH => ?_)
    refine lv_aload_n hx hb dX5_load_19 rfl (lv_at hl 0 rfl) ?_
    refine lv_iload_n hx hb dX5_load_20 rfl (lv_at hl 1 rfl) ?_
    refine lv_iload_n hx hb dX5_load_21 rfl (lv_at hl 2 rfl) ?_
    obtain ⟨t5, ht5, hf⟩ := bd_o hf
    refine k5_loads X hI hH hl.1 qX5_74 ⟨Nat.le_of_ble_eq_true rfl, Nat.le_of_ble_eq_true rfl⟩ ht5 (Nat.le_of_ble_eq_true rfl) dX5_load_22 ⟨Nat.zero_le _, Nat.zero_le _⟩ (fun H locs hH => ?_)
    obtain rfl := so_i hf
    exact mr_iw X hH rfl dX5_load_25
  · have hf := it_f c3 hf
    refine lv_iconst (v := 0) hx hb dX5_load_13 (by decide) ?_
    obtain rfl := so_i hf
    exact mr_iw X hH rfl dX5_load_14
set_option maxRecDepth 100000 in
set_option maxHeartbeats 4000000 in
theorem c5_load (l : Launch) {D : va_G} {cI cZ : ClassId} {ad : Nat → Nat} {v0 v1 v2 v3 v4 v5 v6 v7 v8 : Nat → Int32} (hI : mInj ad) (sz : Nat) (x1 : Int32) (x2 : Int32) {t : Int32 × (Nat → Int32) × (Nat → Int32) × (Nat → Int32)} (hf : f5_load_0 x1 x2 v0 v1 v3 = some t) : Met l yX5_load uX5_load rm5_load (va_Pc [.ref (ad 0), .int x1, .int x2] (fun U => U.heap.size = sz ∧ mB D cI cZ ad v0 v1 v2 v3 v4 v5 v6 v7 v8 U)) (va_Qi (fun (r9 : Int32) (_ : Unit) => r9 = t.1) (fun _ t9 => mB D cI cZ ad t.2.1 t.2.2.1 v2 t.2.2.2 v4 v5 v6 v7 v8 t9) (mA ad sz)) 0 0 (mA ad sz) := by
  refine Met.ofW (cc := cX5_load) (maxL := 3) (ret := (some .int)) (by decide) rfl ?_
  intro p e s m args below meth c s₁ B hml hv
  obtain ⟨rfl, hsz, hP, hK⟩ := hv
  subst hsz
  have X : mX D cI cZ p s m ([.ref (ad 0), .int x1, .int x2] : List Value).toArray meth c cX5_load 3 (some .int) := ⟨⟨B.exec, B.bytes, hml, findClass_of_methodNamed B.named, fun w h => atoms_spec (ws := uX5_load) B.pre w (List.mem_cons_of_mem _ h)⟩, B.returns, B.notSynchronized, hK⟩
  have hl := lv_entry ([.ref (ad 0), .int x1, .int x2]) (n := 3) (Nat.le_of_ble_eq_true rfl)
  rw [lg_entry_eq]
  generalize (lg_sl ([.ref (ad 0), .int x1, .int x2]) ++ List.replicate (3 - (lg_sl ([.ref (ad 0), .int x1, .int x2])).length) Slot.unset).toArray = ls at hl ⊢
  have hl : lv_has ls 3 [(0, .ref (ad 0)), (1, .int x1), (2, .int x2)] := hl
  exact w5_load_0 X hI ⟨hP, va_S.rf⟩ (lv_sub hl [0, 1, 2] rfl) hf
set_option maxRecDepth 100000 in
set_option maxHeartbeats 4000000 in
theorem k5_load {p : Program} {l : Launch} {e : Env} {R : Room} {s : State} {m : MethodId} {args : Array Value} {below : List Frame} {meth : Method} {c : Code} {cc : ByteArray} {nL : Nat} {ret : Option FieldType} {D : va_G} {cI cZ : ClassId} {ad : Nat → Nat} {v0 v1 v2 v3 v4 v5 v6 v7 v8 : Nat → Int32} {H : Heap} {locs : List Loc} {cells slots : Nat} {Q : State → Prop} {pc : Nat} {ls : Array Slot} {rest : List Value} (X : mX D cI cZ p s m args meth c cc nL ret) (hI : mInj ad) (hH : mH D cI cZ ad v0 v1 v2 v3 v4 v5 v6 v7 v8 s H locs) (hls : ls.size = nL) {index : Nat} (hG : GoodIn gw (wsV RX5 index RX5 yX5_load uX5_load)) (hR : rm5_load.frames + 1 ≤ R.frames ∧ 8 + (3 + 11) + rm5_load.locals ≤ R.locals) {x1 : Int32} {x2 : Int32} {t : Int32 × (Nat → Int32) × (Nat → Int32) × (Nat → Int32)} (hf : f5_load_0 x1 x2 v0 v1 v3 = some t) (hrest : (rest.map fun v => v.category).sum ≤ 8) (hdg : decode cc pc = .ok (.invokevirtual index, 3)) (hc : cells ≤ R.cells ∧ slots ≤ R.slots) (kk : ∀ (H1 : Heap) (locs1 : List Loc), mH D cI cZ ad t.2.1 t.2.2.1 v2 t.2.2.2 v4 v5 v6 v7 v8 s H1 locs1 → W p l e R s m args below meth c H1 locs1 cells slots Q (F0 m (pc + 3) ls (.int t.1 :: rest))) : W p l e R s m args below meth c H locs cells slots Q (F0 m pc ls (.int x2 :: .int x1 :: .ref (ad 0) :: rest)) := by
  have hA : ∀ q, mA ad H.size q → mA ad s.heap.size q := fun q h => h.elim Or.inl (fun h => Or.inr (Nat.le_trans hH.2.1 h))
  refine va_calli (va_runV (As := [.int x1, .int x2]) (rest := rest) X.1 (c5_load l hI H.size x1 x2 hf) (cwV 2 X.1.2.2.2.2 hG rfl rfl rfl (by decide +kernel) hR) ⟨mBs_bl, va_recv X.2.2.2 hH.1 (ci := 5) (q0 := 0) rfl rfl, fun U hU hW => ⟨rfl, by rw [hU], by rw [hU]; exact hH.1, va_K.moved hW.alike X.2.2.2⟩⟩ rfl rfl hls rfl (lv_room hrest) hdg hc) hH.2 (fun q _ h => hA q h) hA (fun r9 u t9 H1 locs1 ht hvm hw hB hz1 hk1 hS => ?_)
  subst hw
  exact kk H1 locs1 ⟨by rw [← ht]; exact hB.1, hS⟩
/-! OreRailwayModel.pulled()I -/
def rm5_pulled : Room := { frames := 2, cells := 0, slots := 0, locals := 43 }
def f5_pulled_31 (v1 : Nat → Int32) (K4 : Int32 → Int32 → Option (Int32)) (x2 : Int32) (y0 : Int32) (y1 : Int32) : Option (Int32) := K4 (y1 + y0) (x2 + 1)
set_option maxRecDepth 100000 in
set_option maxHeartbeats 4000000 in
theorem w5_pulled_31 {p : Program} {l : Launch} {e : Env} {s : State} {m : MethodId} {args : Array Value} {below : List Frame} {meth : Method} {c : Code} {D : va_G} {cI cZ : ClassId} {ad : Nat → Nat} {v0 v1 v2 v3 v4 v5 v6 v7 v8 : Nat → Int32} (X : mX D cI cZ p s m args meth c cX5_pulled 3 (some .int)) (hP : va_P D vwCl (mwW cI cZ ad v0 v1 v2 v3 v4 v5 v6 v7 v8) s.heap) {x2 : Int32} {y0 : Int32} {y1 : Int32} {t : Int32} {K4 : Int32 → Int32 → Option (Int32)} (hK4 : ∀ (x1 : Int32) (x2 : Int32) (ls : Array Slot), lv_has ls 3 [(0, .ref (ad 0)), (1, .int x1), (2, .int x2)] → K4 x1 x2 = some t → W p l e rm5_pulled s m args below meth c s.heap [] 0 0 (MQ below (QcRead t) args s 0 0 (fun _ => False)) (F0 m 4 ls []))  {ls : Array Slot} (hl : lv_has ls 3 [(0, .ref (ad 0)), (2, .int x2)]) (hf : f5_pulled_31 v1 K4 x2 y0 y1 = some t) : W p l e rm5_pulled s m args below meth c s.heap [] 0 0 (MQ below (QcRead t) args s 0 0 (fun _ => False)) (F0 m 31 ls [.int y0, .int y1]) := by
  obtain ⟨⟨hx, hb, hml, hown, hts⟩, hr, hlk, hK⟩ := id X
  replace hf : (K4 (y1 + y0) (x2 + 1)) = some t := hf
  refine lv_iadd hx hb dX5_pulled_31 ?_
  refine lv_istore_n (lv' := [(1, .int (y1 + y0)), (0, .ref (ad 0)), (2, .int x2)]) hx hb dX5_pulled_32 rfl hl (by decide) rfl (fun ls hl => ?_)
  refine lv_iinc (v := x2 + 1) (lv' := [(2, .int (x2 + 1)), (1, .int (y1 + y0)), (0, .ref (ad 0))]) hx hb dX5_pulled_33 hl (k := 2) rfl rfl (by decide) rfl (fun ls hl => ?_)
  refine lv_goto (tgt := 4) hx hb dX5_pulled_36 (by decide) ?_
  exact hK4 _ _ _ (lv_sub hl [2, 1, 0] rfl) hf
def f5_pulled_4 (v1 : Nat → Int32) : Nat → Int32 → Int32 → Option (Int32)
  | 0, _, _ => none
  | n + 1, x1, x2 => gd 162 171 (if (v1 (Int32.toNatClampNeg 162)) ≤ x2 then (some x1) else (Option.bind (f5_isIn_0 v1 x2 4) (fun t3 => if t3 = 0 then (f5_pulled_31 v1 (f5_pulled_4 v1 n) x2 0 x1) else (f5_pulled_31 v1 (f5_pulled_4 v1 n) x2 1 x1))))
set_option maxRecDepth 100000 in
set_option maxHeartbeats 4000000 in
theorem w5_pulled_4 {p : Program} {l : Launch} {e : Env} {s : State} {m : MethodId} {args : Array Value} {below : List Frame} {meth : Method} {c : Code} {D : va_G} {cI cZ : ClassId} {ad : Nat → Nat} {v0 v1 v2 v3 v4 v5 v6 v7 v8 : Nat → Int32} (X : mX D cI cZ p s m args meth c cX5_pulled 3 (some .int)) (hP : va_P D vwCl (mwW cI cZ ad v0 v1 v2 v3 v4 v5 v6 v7 v8) s.heap) {t : Int32} :
    ∀ (n : Nat) (x1 : Int32) (x2 : Int32) (ls : Array Slot), lv_has ls 3 [(0, .ref (ad 0)), (1, .int x1), (2, .int x2)] → f5_pulled_4 v1 n x1 x2 = some t → W p l e rm5_pulled s m args below meth c s.heap [] 0 0 (MQ below (QcRead t) args s 0 0 (fun _ => False)) (F0 m 4 ls []) := by
  obtain ⟨⟨hx, hb, hml, hown, hts⟩, hr, hlk, hK⟩ := id X
  intro n
  induction n with
  | zero =>
    intro x1 x2 ls hl hf
    cases hf
  | succ n ih =>
    intro x1 x2 ls hl hf
    replace hf : (gd 162 171 (if (v1 (Int32.toNatClampNeg 162)) ≤ x2 then (some x1) else (Option.bind (f5_isIn_0 v1 x2 4) (fun t3 => if t3 = 0 then (f5_pulled_31 v1 (f5_pulled_4 v1 n) x2 0 x1) else (f5_pulled_31 v1 (f5_pulled_4 v1 n) x2 1 x1))))) = some t := hf
    refine lv_iload_n hx hb dX5_pulled_4 rfl (lv_at hl 2 rfl) ?_
    refine lv_aload_n hx hb dX5_pulled_5 rfl (lv_at hl 0 rfl) ?_
    refine mr_get X hP (k := 0) (v := .ref (ad 1)) (by decide) gfX5_7 rfl dX5_pulled_6 ?_
    refine lv_sipush (v := 162) hx hb dX5_pulled_9 (by decide) ?_
    obtain ⟨hi1, hf⟩ := gd_o hf
    refine mr_ld1 X hP hi1 dX5_pulled_12 ?_
    refine lv_icmp_ge (tgt := 39) hx hb dX5_pulled_13 (by decide) (fun c2 => ?_) (fun c2 => ?_)
    · have hf := it_t c2 hf
      refine lv_iload_n hx hb dX5_pulled_39 rfl (lv_at hl 1 rfl) ?_
      obtain rfl := so_i hf
      exact rd_i hx hb hr hlk dX5_pulled_40
    · have hf := it_f c2 hf
      refine lv_iload_n hx hb dX5_pulled_16 rfl (lv_at hl 1 rfl) ?_
      refine lv_aload_n hx hb dX5_pulled_17 rfl (lv_at hl 0 rfl) ?_
      refine lv_iload_n hx hb dX5_pulled_18 rfl (lv_at hl 2 rfl) ?_
      refine lv_iconst (v := 4) hx hb dX5_pulled_19 (by decide) ?_
      obtain ⟨t3, ht3, hf⟩ := bd_o hf
      refine k5_isIn X hP hl.1 qX5_67 ⟨Nat.le_of_ble_eq_true rfl, Nat.le_of_ble_eq_true rfl⟩ ht3 (Nat.le_of_ble_eq_true rfl) dX5_pulled_20 ⟨Nat.zero_le _, Nat.zero_le _⟩ ?_
      refine lv_if_eq (tgt := 30) hx hb dX5_pulled_23 (by decide) (fun c4 => ?_) (fun c4 => ?_)
      · have hf := it_t c4 hf
        refine lv_iconst (v := 0) hx hb dX5_pulled_30 (by decide) ?_
        exact w5_pulled_31 X hP (K4 := (f5_pulled_4 v1 n)) ih  (lv_sub hl [0, 2] rfl) hf
      · have hf := it_f c4 hf
        refine lv_iconst (v := 1) hx hb dX5_pulled_26 (by decide) ?_
        refine lv_goto (tgt := 31) hx hb dX5_pulled_27 (by decide) ?_
        exact w5_pulled_31 X hP (K4 := (f5_pulled_4 v1 n)) ih  (lv_sub hl [0, 2] rfl) hf
def f5_pulled_0 (v1 : Nat → Int32) : Option (Int32) := f5_pulled_4 v1 fu 0 0
set_option maxRecDepth 100000 in
set_option maxHeartbeats 4000000 in
theorem w5_pulled_0 {p : Program} {l : Launch} {e : Env} {s : State} {m : MethodId} {args : Array Value} {below : List Frame} {meth : Method} {c : Code} {D : va_G} {cI cZ : ClassId} {ad : Nat → Nat} {v0 v1 v2 v3 v4 v5 v6 v7 v8 : Nat → Int32} (X : mX D cI cZ p s m args meth c cX5_pulled 3 (some .int)) (hP : va_P D vwCl (mwW cI cZ ad v0 v1 v2 v3 v4 v5 v6 v7 v8) s.heap) {t : Int32}  {ls : Array Slot} (hl : lv_has ls 3 [(0, .ref (ad 0))]) (hf : f5_pulled_0 v1  = some t) : W p l e rm5_pulled s m args below meth c s.heap [] 0 0 (MQ below (QcRead t) args s 0 0 (fun _ => False)) (F0 m 0 ls []) := by
  obtain ⟨⟨hx, hb, hml, hown, hts⟩, hr, hlk, hK⟩ := id X
  replace hf : (f5_pulled_4 v1 fu 0 0) = some t := hf
  refine lv_iconst (v := 0) hx hb dX5_pulled_0 (by decide) ?_
  refine lv_istore_n (lv' := [(1, .int 0), (0, .ref (ad 0))]) hx hb dX5_pulled_1 rfl hl (by decide) rfl (fun ls hl => ?_)
  refine lv_iconst (v := 0) hx hb dX5_pulled_2 (by decide) ?_
  refine lv_istore_n (lv' := [(2, .int 0), (1, .int 0), (0, .ref (ad 0))]) hx hb dX5_pulled_3 rfl hl (by decide) rfl (fun ls hl => ?_)
  exact w5_pulled_4 X hP _ _ _ _ (lv_sub hl [2, 1, 0] rfl) hf
set_option maxRecDepth 100000 in
set_option maxHeartbeats 4000000 in
theorem c5_pulled (l : Launch) {D : va_G} {cI cZ : ClassId} {ad : Nat → Nat} {v0 v1 v2 v3 v4 v5 v6 v7 v8 : Nat → Int32} {t : Int32} (hf : f5_pulled_0 v1 = some t) : Met l yX5_pulled uX5_pulled rm5_pulled (va_Pc [.ref (ad 0)] (mB D cI cZ ad v0 v1 v2 v3 v4 v5 v6 v7 v8)) (QcRead t) 0 0 (fun _ => False) := by
  refine Met.ofW (cc := cX5_pulled) (maxL := 3) (ret := (some .int)) (by decide) rfl ?_
  intro p e s m args below meth c s₁ B hml hv
  obtain ⟨rfl, hP, hK⟩ := hv
  have X : mX D cI cZ p s m ([.ref (ad 0)] : List Value).toArray meth c cX5_pulled 3 (some .int) := ⟨⟨B.exec, B.bytes, hml, findClass_of_methodNamed B.named, fun w h => atoms_spec (ws := uX5_pulled) B.pre w (List.mem_cons_of_mem _ h)⟩, B.returns, B.notSynchronized, hK⟩
  have hl := lv_entry ([.ref (ad 0)]) (n := 3) (Nat.le_of_ble_eq_true rfl)
  rw [lg_entry_eq]
  generalize (lg_sl ([.ref (ad 0)]) ++ List.replicate (3 - (lg_sl ([.ref (ad 0)])).length) Slot.unset).toArray = ls at hl ⊢
  have hl : lv_has ls 3 [(0, .ref (ad 0))] := hl
  exact w5_pulled_0 X hP (lv_sub hl [0] rfl) hf
set_option maxRecDepth 100000 in
set_option maxHeartbeats 4000000 in
theorem k5_pulled {p : Program} {l : Launch} {e : Env} {R : Room} {s : State} {m : MethodId} {args : Array Value} {below : List Frame} {meth : Method} {c : Code} {cc : ByteArray} {nL : Nat} {ret : Option FieldType} {D : va_G} {cI cZ : ClassId} {ad : Nat → Nat} {v0 v1 v2 v3 v4 v5 v6 v7 v8 : Nat → Int32} {H : Heap} {locs : List Loc} {cells slots : Nat} {Q : State → Prop} {pc : Nat} {ls : Array Slot} {rest : List Value} (X : mX D cI cZ p s m args meth c cc nL ret) (hP : va_P D vwCl (mwW cI cZ ad v0 v1 v2 v3 v4 v5 v6 v7 v8) H) (hls : ls.size = nL) {index : Nat} (hG : GoodIn gw (wsV RX5 index RX5 yX5_pulled uX5_pulled)) (hR : rm5_pulled.frames + 1 ≤ R.frames ∧ 8 + (3 + 11) + rm5_pulled.locals ≤ R.locals) {t : Int32} (hf : f5_pulled_0 v1 = some t) (hrest : (rest.map fun v => v.category).sum ≤ 8) (hdg : decode cc pc = .ok (.invokevirtual index, 3)) (hc : cells ≤ R.cells ∧ slots ≤ R.slots) (kk : W p l e R s m args below meth c H locs cells slots Q (F0 m (pc + 3) ls (.int t :: rest))) : W p l e R s m args below meth c H locs cells slots Q (F0 m pc ls (.ref (ad 0) :: rest)) :=
  W.callR (W.runV (As := []) X.1 (c5_pulled l hf) (cwV 0 X.1.2.2.2.2 hG rfl rfl rfl (by decide +kernel) hR) ⟨mB_bl, va_recv X.2.2.2 hP (ci := 5) (q0 := 0) rfl rfl, fun U hU hW => ⟨rfl, by rw [hU]; exact hP, va_K.moved hW.alike X.2.2.2⟩⟩ rfl rfl hls rfl (lv_room hrest) hdg hc) kk
/-! OreRailwayModel.mules()I -/
def rm5_mules : Room := { frames := 3, cells := 0, slots := 0, locals := 65 }
def f5_mules_23 (v1 : Nat → Int32) (y0 : Int32) : Option (Int32) := some y0
set_option maxRecDepth 100000 in
set_option maxHeartbeats 4000000 in
theorem w5_mules_23 {p : Program} {l : Launch} {e : Env} {s : State} {m : MethodId} {args : Array Value} {below : List Frame} {meth : Method} {c : Code} {D : va_G} {cI cZ : ClassId} {ad : Nat → Nat} {v0 v1 v2 v3 v4 v5 v6 v7 v8 : Nat → Int32} (X : mX D cI cZ p s m args meth c cX5_mules 2 (some .int)) (hP : va_P D vwCl (mwW cI cZ ad v0 v1 v2 v3 v4 v5 v6 v7 v8) s.heap) {y0 : Int32} {t : Int32}  {ls : Array Slot} (hl : lv_has ls 2 []) (hf : f5_mules_23 v1 y0 = some t) : W p l e rm5_mules s m args below meth c s.heap [] 0 0 (MQ below (QcRead t) args s 0 0 (fun _ => False)) (F0 m 23 ls [.int y0]) := by
  obtain ⟨⟨hx, hb, hml, hown, hts⟩, hr, hlk, hK⟩ := id X
  replace hf : (some y0) = some t := hf
  obtain rfl := so_i hf
  exact rd_i hx hb hr hlk dX5_mules_23
def f5_mules_0 (v1 : Nat → Int32) : Option (Int32) := gd 170 171 (Option.bind (f5_pulled_0 v1) (fun t2 => if ((v1 (Int32.toNatClampNeg 170)) - t2) ≤ 0 then (f5_mules_23 v1 0) else (f5_mules_23 v1 ((v1 (Int32.toNatClampNeg 170)) - t2))))
set_option maxRecDepth 100000 in
set_option maxHeartbeats 4000000 in
theorem w5_mules_0 {p : Program} {l : Launch} {e : Env} {s : State} {m : MethodId} {args : Array Value} {below : List Frame} {meth : Method} {c : Code} {D : va_G} {cI cZ : ClassId} {ad : Nat → Nat} {v0 v1 v2 v3 v4 v5 v6 v7 v8 : Nat → Int32} (X : mX D cI cZ p s m args meth c cX5_mules 2 (some .int)) (hP : va_P D vwCl (mwW cI cZ ad v0 v1 v2 v3 v4 v5 v6 v7 v8) s.heap) {t : Int32}  {ls : Array Slot} (hl : lv_has ls 2 [(0, .ref (ad 0))]) (hf : f5_mules_0 v1  = some t) : W p l e rm5_mules s m args below meth c s.heap [] 0 0 (MQ below (QcRead t) args s 0 0 (fun _ => False)) (F0 m 0 ls []) := by
  obtain ⟨⟨hx, hb, hml, hown, hts⟩, hr, hlk, hK⟩ := id X
  replace hf : (gd 170 171 (Option.bind (f5_pulled_0 v1) (fun t2 => if ((v1 (Int32.toNatClampNeg 170)) - t2) ≤ 0 then (f5_mules_23 v1 0) else (f5_mules_23 v1 ((v1 (Int32.toNatClampNeg 170)) - t2))))) = some t := hf
  refine lv_aload_n hx hb dX5_mules_0 rfl (lv_at hl 0 rfl) ?_
  refine mr_get X hP (k := 0) (v := .ref (ad 1)) (by decide) gfX5_7 rfl dX5_mules_1 ?_
  refine lv_sipush (v := 170) hx hb dX5_mules_4 (by decide) ?_
  obtain ⟨hi1, hf⟩ := gd_o hf
  refine mr_ld1 X hP hi1 dX5_mules_7 ?_
  refine lv_aload_n hx hb dX5_mules_8 rfl (lv_at hl 0 rfl) ?_
  obtain ⟨t2, ht2, hf⟩ := bd_o hf
  refine k5_pulled X hP hl.1 qX5_77 ⟨Nat.le_of_ble_eq_true rfl, Nat.le_of_ble_eq_true rfl⟩ ht2 (Nat.le_of_ble_eq_true rfl) dX5_mules_9 ⟨Nat.zero_le _, Nat.zero_le _⟩ ?_
  refine lv_isub hx hb dX5_mules_12 ?_
  refine lv_istore_n (lv' := [(1, .int ((v1 (Int32.toNatClampNeg 170)) - t2)), (0, .ref (ad 0))]) hx hb dX5_mules_13 rfl hl (by decide) rfl (fun ls hl => ?_)
  refine lv_iload_n hx hb dX5_mules_14 rfl (lv_at hl 0 rfl) ?_
  refine lv_if_le (tgt := 22) hx hb dX5_mules_15 (by decide) (fun c3 => ?_) (fun c3 => ?_)
  · have hf := it_t c3 hf
    refine lv_iconst (v := 0) hx hb dX5_mules_22 (by decide) ?_
    exact w5_mules_23 X hP  (lv_sub hl [] rfl) hf
  · have hf := it_f c3 hf
    refine lv_iload_n hx hb dX5_mules_18 rfl (lv_at hl 0 rfl) ?_
    refine lv_goto (tgt := 23) hx hb dX5_mules_19 (by decide) ?_
    exact w5_mules_23 X hP  (lv_sub hl [] rfl) hf
set_option maxRecDepth 100000 in
set_option maxHeartbeats 4000000 in
theorem c5_mules (l : Launch) {D : va_G} {cI cZ : ClassId} {ad : Nat → Nat} {v0 v1 v2 v3 v4 v5 v6 v7 v8 : Nat → Int32} {t : Int32} (hf : f5_mules_0 v1 = some t) : Met l yX5_mules uX5_mules rm5_mules (va_Pc [.ref (ad 0)] (mB D cI cZ ad v0 v1 v2 v3 v4 v5 v6 v7 v8)) (QcRead t) 0 0 (fun _ => False) := by
  refine Met.ofW (cc := cX5_mules) (maxL := 2) (ret := (some .int)) (by decide) rfl ?_
  intro p e s m args below meth c s₁ B hml hv
  obtain ⟨rfl, hP, hK⟩ := hv
  have X : mX D cI cZ p s m ([.ref (ad 0)] : List Value).toArray meth c cX5_mules 2 (some .int) := ⟨⟨B.exec, B.bytes, hml, findClass_of_methodNamed B.named, fun w h => atoms_spec (ws := uX5_mules) B.pre w (List.mem_cons_of_mem _ h)⟩, B.returns, B.notSynchronized, hK⟩
  have hl := lv_entry ([.ref (ad 0)]) (n := 2) (Nat.le_of_ble_eq_true rfl)
  rw [lg_entry_eq]
  generalize (lg_sl ([.ref (ad 0)]) ++ List.replicate (2 - (lg_sl ([.ref (ad 0)])).length) Slot.unset).toArray = ls at hl ⊢
  have hl : lv_has ls 2 [(0, .ref (ad 0))] := hl
  exact w5_mules_0 X hP (lv_sub hl [0] rfl) hf
set_option maxRecDepth 100000 in
set_option maxHeartbeats 4000000 in
theorem k5_mules {p : Program} {l : Launch} {e : Env} {R : Room} {s : State} {m : MethodId} {args : Array Value} {below : List Frame} {meth : Method} {c : Code} {cc : ByteArray} {nL : Nat} {ret : Option FieldType} {D : va_G} {cI cZ : ClassId} {ad : Nat → Nat} {v0 v1 v2 v3 v4 v5 v6 v7 v8 : Nat → Int32} {H : Heap} {locs : List Loc} {cells slots : Nat} {Q : State → Prop} {pc : Nat} {ls : Array Slot} {rest : List Value} (X : mX D cI cZ p s m args meth c cc nL ret) (hP : va_P D vwCl (mwW cI cZ ad v0 v1 v2 v3 v4 v5 v6 v7 v8) H) (hls : ls.size = nL) {index : Nat} (hG : GoodIn gw (wsV RX5 index RX5 yX5_mules uX5_mules)) (hR : rm5_mules.frames + 1 ≤ R.frames ∧ 8 + (2 + 11) + rm5_mules.locals ≤ R.locals) {t : Int32} (hf : f5_mules_0 v1 = some t) (hrest : (rest.map fun v => v.category).sum ≤ 8) (hdg : decode cc pc = .ok (.invokevirtual index, 3)) (hc : cells ≤ R.cells ∧ slots ≤ R.slots) (kk : W p l e R s m args below meth c H locs cells slots Q (F0 m (pc + 3) ls (.int t :: rest))) : W p l e R s m args below meth c H locs cells slots Q (F0 m pc ls (.ref (ad 0) :: rest)) :=
  W.callR (W.runV (As := []) X.1 (c5_mules l hf) (cwV 0 X.1.2.2.2.2 hG rfl rfl rfl (by decide +kernel) hR) ⟨mB_bl, va_recv X.2.2.2 hP (ci := 5) (q0 := 0) rfl rfl, fun U hU hW => ⟨rfl, by rw [hU]; exact hP, va_K.moved hW.alike X.2.2.2⟩⟩ rfl rfl hls rfl (lv_room hrest) hdg hc) kk
/-! OreRailwayModel.noRelease(I)I -/
def rm5_noRelease : Room := { frames := 2, cells := 0, slots := 0, locals := 43 }
def f5_noRelease_78 (v1 : Nat → Int32) (y0 : Int32) : Option (Int32) := some y0
set_option maxRecDepth 100000 in
set_option maxHeartbeats 4000000 in
theorem w5_noRelease_78 {p : Program} {l : Launch} {e : Env} {s : State} {m : MethodId} {args : Array Value} {below : List Frame} {meth : Method} {c : Code} {D : va_G} {cI cZ : ClassId} {ad : Nat → Nat} {v0 v1 v2 v3 v4 v5 v6 v7 v8 : Nat → Int32} (X : mX D cI cZ p s m args meth c cX5_noRelease 4 (some .int)) (hP : va_P D vwCl (mwW cI cZ ad v0 v1 v2 v3 v4 v5 v6 v7 v8) s.heap) {y0 : Int32} {t : Int32}  {ls : Array Slot} (hl : lv_has ls 4 []) (hf : f5_noRelease_78 v1 y0 = some t) : W p l e rm5_noRelease s m args below meth c s.heap [] 0 0 (MQ below (QcRead t) args s 0 0 (fun _ => False)) (F0 m 78 ls [.int y0]) := by
  obtain ⟨⟨hx, hb, hml, hown, hts⟩, hr, hlk, hK⟩ := id X
  replace hf : (some y0) = some t := hf
  obtain rfl := so_i hf
  exact rd_i hx hb hr hlk dX5_noRelease_78
def f5_noRelease_49 (v1 : Nat → Int32) (K4 : Int32 → Int32 → Int32 → Option (Int32)) (x1 : Int32) (x3 : Int32) (y0 : Int32) : Option (Int32) := K4 x1 y0 (x3 + 1)
set_option maxRecDepth 100000 in
set_option maxHeartbeats 4000000 in
theorem w5_noRelease_49 {p : Program} {l : Launch} {e : Env} {s : State} {m : MethodId} {args : Array Value} {below : List Frame} {meth : Method} {c : Code} {D : va_G} {cI cZ : ClassId} {ad : Nat → Nat} {v0 v1 v2 v3 v4 v5 v6 v7 v8 : Nat → Int32} (X : mX D cI cZ p s m args meth c cX5_noRelease 4 (some .int)) (hP : va_P D vwCl (mwW cI cZ ad v0 v1 v2 v3 v4 v5 v6 v7 v8) s.heap) {x1 : Int32} {x3 : Int32} {y0 : Int32} {t : Int32} {K4 : Int32 → Int32 → Int32 → Option (Int32)} (hK4 : ∀ (x1 : Int32) (x2 : Int32) (x3 : Int32) (ls : Array Slot), lv_has ls 4 [(0, .ref (ad 0)), (1, .int x1), (2, .int x2), (3, .int x3)] → K4 x1 x2 x3 = some t → W p l e rm5_noRelease s m args below meth c s.heap [] 0 0 (MQ below (QcRead t) args s 0 0 (fun _ => False)) (F0 m 4 ls []))  {ls : Array Slot} (hl : lv_has ls 4 [(0, .ref (ad 0)), (1, .int x1), (3, .int x3)]) (hf : f5_noRelease_49 v1 K4 x1 x3 y0 = some t) : W p l e rm5_noRelease s m args below meth c s.heap [] 0 0 (MQ below (QcRead t) args s 0 0 (fun _ => False)) (F0 m 49 ls [.int y0]) := by
  obtain ⟨⟨hx, hb, hml, hown, hts⟩, hr, hlk, hK⟩ := id X
  replace hf : (K4 x1 y0 (x3 + 1)) = some t := hf
  refine lv_istore_n (lv' := [(2, .int y0), (0, .ref (ad 0)), (1, .int x1), (3, .int x3)]) hx hb dX5_noRelease_49 rfl hl (by decide) rfl (fun ls hl => ?_)
  refine lv_iinc (v := x3 + 1) (lv' := [(3, .int (x3 + 1)), (2, .int y0), (0, .ref (ad 0)), (1, .int x1)]) hx hb dX5_noRelease_50 hl (k := 3) rfl rfl (by decide) rfl (fun ls hl => ?_)
  refine lv_goto (tgt := 4) hx hb dX5_noRelease_53 (by decide) ?_
  exact hK4 _ _ _ _ (lv_sub hl [2, 3, 1, 0] rfl) hf
def f5_noRelease_48 (v1 : Nat → Int32) (K4 : Int32 → Int32 → Int32 → Option (Int32)) (x1 : Int32) (x3 : Int32) : Option (Int32) := f5_noRelease_49 v1 K4 x1 x3 0
set_option maxRecDepth 100000 in
set_option maxHeartbeats 4000000 in
theorem w5_noRelease_48 {p : Program} {l : Launch} {e : Env} {s : State} {m : MethodId} {args : Array Value} {below : List Frame} {meth : Method} {c : Code} {D : va_G} {cI cZ : ClassId} {ad : Nat → Nat} {v0 v1 v2 v3 v4 v5 v6 v7 v8 : Nat → Int32} (X : mX D cI cZ p s m args meth c cX5_noRelease 4 (some .int)) (hP : va_P D vwCl (mwW cI cZ ad v0 v1 v2 v3 v4 v5 v6 v7 v8) s.heap) {x1 : Int32} {x3 : Int32} {t : Int32} {K4 : Int32 → Int32 → Int32 → Option (Int32)} (hK4 : ∀ (x1 : Int32) (x2 : Int32) (x3 : Int32) (ls : Array Slot), lv_has ls 4 [(0, .ref (ad 0)), (1, .int x1), (2, .int x2), (3, .int x3)] → K4 x1 x2 x3 = some t → W p l e rm5_noRelease s m args below meth c s.heap [] 0 0 (MQ below (QcRead t) args s 0 0 (fun _ => False)) (F0 m 4 ls []))  {ls : Array Slot} (hl : lv_has ls 4 [(0, .ref (ad 0)), (1, .int x1), (3, .int x3)]) (hf : f5_noRelease_48 v1 K4 x1 x3 = some t) : W p l e rm5_noRelease s m args below meth c s.heap [] 0 0 (MQ below (QcRead t) args s 0 0 (fun _ => False)) (F0 m 48 ls []) := by
  obtain ⟨⟨hx, hb, hml, hown, hts⟩, hr, hlk, hK⟩ := id X
  replace hf : (f5_noRelease_49 v1 K4 x1 x3 0) = some t := hf
  refine lv_iconst (v := 0) hx hb dX5_noRelease_48 (by decide) ?_
  exact w5_noRelease_49 X hP (K4 := K4) hK4  (lv_sub hl [0, 1, 2] rfl) hf
def f5_noRelease_44 (v1 : Nat → Int32) (K4 : Int32 → Int32 → Int32 → Option (Int32)) (x1 : Int32) (x3 : Int32) : Option (Int32) := f5_noRelease_49 v1 K4 x1 x3 1
set_option maxRecDepth 100000 in
set_option maxHeartbeats 4000000 in
theorem w5_noRelease_44 {p : Program} {l : Launch} {e : Env} {s : State} {m : MethodId} {args : Array Value} {below : List Frame} {meth : Method} {c : Code} {D : va_G} {cI cZ : ClassId} {ad : Nat → Nat} {v0 v1 v2 v3 v4 v5 v6 v7 v8 : Nat → Int32} (X : mX D cI cZ p s m args meth c cX5_noRelease 4 (some .int)) (hP : va_P D vwCl (mwW cI cZ ad v0 v1 v2 v3 v4 v5 v6 v7 v8) s.heap) {x1 : Int32} {x3 : Int32} {t : Int32} {K4 : Int32 → Int32 → Int32 → Option (Int32)} (hK4 : ∀ (x1 : Int32) (x2 : Int32) (x3 : Int32) (ls : Array Slot), lv_has ls 4 [(0, .ref (ad 0)), (1, .int x1), (2, .int x2), (3, .int x3)] → K4 x1 x2 x3 = some t → W p l e rm5_noRelease s m args below meth c s.heap [] 0 0 (MQ below (QcRead t) args s 0 0 (fun _ => False)) (F0 m 4 ls []))  {ls : Array Slot} (hl : lv_has ls 4 [(0, .ref (ad 0)), (1, .int x1), (3, .int x3)]) (hf : f5_noRelease_44 v1 K4 x1 x3 = some t) : W p l e rm5_noRelease s m args below meth c s.heap [] 0 0 (MQ below (QcRead t) args s 0 0 (fun _ => False)) (F0 m 44 ls []) := by
  obtain ⟨⟨hx, hb, hml, hown, hts⟩, hr, hlk, hK⟩ := id X
  replace hf : (f5_noRelease_49 v1 K4 x1 x3 1) = some t := hf
  refine lv_iconst (v := 1) hx hb dX5_noRelease_44 (by decide) ?_
  refine lv_goto (tgt := 49) hx hb dX5_noRelease_45 (by decide) ?_
  exact w5_noRelease_49 X hP (K4 := K4) hK4  (lv_sub hl [0, 1, 2] rfl) hf
def f5_noRelease_4 (v1 : Nat → Int32) : Nat → Int32 → Int32 → Int32 → Option (Int32)
  | 0, _, _, _ => none
  | n + 1, x1, x2, x3 => gd 162 171 (if (v1 (Int32.toNatClampNeg 162)) ≤ x3 then (Option.bind (f5_isIn_0 v1 x1 0) (fun t3 => if t3 = 0 then (f5_noRelease_78 v1 1) else (if x2 = 0 then (f5_noRelease_78 v1 0) else (f5_noRelease_78 v1 2)))) else (if x2 = 0 then (Option.bind (f5_isIn_0 v1 x3 1) (fun t7 => if t7 = 0 then (f5_noRelease_48 v1 (f5_noRelease_4 v1 n) x1 x3) else (gd (e5_of x3 4) 171 (if 10 ≤ (v1 (Int32.toNatClampNeg (e5_of x3 4))) then (f5_noRelease_48 v1 (f5_noRelease_4 v1 n) x1 x3) else (f5_noRelease_44 v1 (f5_noRelease_4 v1 n) x1 x3))))) else (f5_noRelease_44 v1 (f5_noRelease_4 v1 n) x1 x3)))
set_option maxRecDepth 100000 in
set_option maxHeartbeats 4000000 in
theorem w5_noRelease_4 {p : Program} {l : Launch} {e : Env} {s : State} {m : MethodId} {args : Array Value} {below : List Frame} {meth : Method} {c : Code} {D : va_G} {cI cZ : ClassId} {ad : Nat → Nat} {v0 v1 v2 v3 v4 v5 v6 v7 v8 : Nat → Int32} (X : mX D cI cZ p s m args meth c cX5_noRelease 4 (some .int)) (hP : va_P D vwCl (mwW cI cZ ad v0 v1 v2 v3 v4 v5 v6 v7 v8) s.heap) {t : Int32} :
    ∀ (n : Nat) (x1 : Int32) (x2 : Int32) (x3 : Int32) (ls : Array Slot), lv_has ls 4 [(0, .ref (ad 0)), (1, .int x1), (2, .int x2), (3, .int x3)] → f5_noRelease_4 v1 n x1 x2 x3 = some t → W p l e rm5_noRelease s m args below meth c s.heap [] 0 0 (MQ below (QcRead t) args s 0 0 (fun _ => False)) (F0 m 4 ls []) := by
  obtain ⟨⟨hx, hb, hml, hown, hts⟩, hr, hlk, hK⟩ := id X
  intro n
  induction n with
  | zero =>
    intro x1 x2 x3 ls hl hf
    cases hf
  | succ n ih =>
    intro x1 x2 x3 ls hl hf
    replace hf : (gd 162 171 (if (v1 (Int32.toNatClampNeg 162)) ≤ x3 then (Option.bind (f5_isIn_0 v1 x1 0) (fun t3 => if t3 = 0 then (f5_noRelease_78 v1 1) else (if x2 = 0 then (f5_noRelease_78 v1 0) else (f5_noRelease_78 v1 2)))) else (if x2 = 0 then (Option.bind (f5_isIn_0 v1 x3 1) (fun t7 => if t7 = 0 then (f5_noRelease_48 v1 (f5_noRelease_4 v1 n) x1 x3) else (gd (e5_of x3 4) 171 (if 10 ≤ (v1 (Int32.toNatClampNeg (e5_of x3 4))) then (f5_noRelease_48 v1 (f5_noRelease_4 v1 n) x1 x3) else (f5_noRelease_44 v1 (f5_noRelease_4 v1 n) x1 x3))))) else (f5_noRelease_44 v1 (f5_noRelease_4 v1 n) x1 x3)))) = some t := hf
    refine lv_iload_n hx hb dX5_noRelease_4 rfl (lv_at hl 3 rfl) ?_
    refine lv_aload_n hx hb dX5_noRelease_5 rfl (lv_at hl 0 rfl) ?_
    refine mr_get X hP (k := 0) (v := .ref (ad 1)) (by decide) gfX5_7 rfl dX5_noRelease_6 ?_
    refine lv_sipush (v := 162) hx hb dX5_noRelease_9 (by decide) ?_
    obtain ⟨hi1, hf⟩ := gd_o hf
    refine mr_ld1 X hP hi1 dX5_noRelease_12 ?_
    refine lv_icmp_ge (tgt := 56) hx hb dX5_noRelease_13 (by decide) (fun c2 => ?_) (fun c2 => ?_)
    · have hf := it_t c2 hf
      refine lv_aload_n hx hb dX5_noRelease_56 rfl (lv_at hl 0 rfl) ?_
      refine lv_iload_n hx hb dX5_noRelease_57 rfl (lv_at hl 1 rfl) ?_
      refine lv_iconst (v := 0) hx hb dX5_noRelease_58 (by decide) ?_
      obtain ⟨t3, ht3, hf⟩ := bd_o hf
      refine k5_isIn X hP hl.1 qX5_67 ⟨Nat.le_of_ble_eq_true rfl, Nat.le_of_ble_eq_true rfl⟩ ht3 (Nat.le_of_ble_eq_true rfl) dX5_noRelease_59 ⟨Nat.zero_le _, Nat.zero_le _⟩ ?_
      refine lv_if_ne (tgt := 69) hx hb dX5_noRelease_62 (by decide) (fun c4 => ?_) (fun c4 => ?_)
      · have hf := it_f c4 hf
        refine lv_iload_n hx hb dX5_noRelease_69 rfl (lv_at hl 2 rfl) ?_
        refine lv_if_eq (tgt := 77) hx hb dX5_noRelease_70 (by decide) (fun c5 => ?_) (fun c5 => ?_)
        · have hf := it_t c5 hf
          refine lv_iconst (v := 0) hx hb dX5_noRelease_77 (by decide) ?_
          exact w5_noRelease_78 X hP  (lv_sub hl [] rfl) hf
        · have hf := it_f c5 hf
          refine lv_iconst (v := 2) hx hb dX5_noRelease_73 (by decide) ?_
          refine lv_goto (tgt := 78) hx hb dX5_noRelease_74 (by decide) ?_
          exact w5_noRelease_78 X hP  (lv_sub hl [] rfl) hf
      · have hf := it_t c4 hf
        refine lv_iconst (v := 1) hx hb dX5_noRelease_65 (by decide) ?_
        refine lv_goto (tgt := 78) hx hb dX5_noRelease_66 (by decide) ?_
        exact w5_noRelease_78 X hP  (lv_sub hl [] rfl) hf
    · have hf := it_f c2 hf
      refine lv_iload_n hx hb dX5_noRelease_16 rfl (lv_at hl 2 rfl) ?_
      refine lv_if_ne (tgt := 44) hx hb dX5_noRelease_17 (by decide) (fun c6 => ?_) (fun c6 => ?_)
      · have hf := it_f c6 hf
        exact w5_noRelease_44 X hP (K4 := (f5_noRelease_4 v1 n)) ih  (lv_sub hl [0, 1, 3] rfl) hf
      · have hf := it_t c6 hf
        refine lv_aload_n hx hb dX5_noRelease_20 rfl (lv_at hl 0 rfl) ?_
        refine lv_iload_n hx hb dX5_noRelease_21 rfl (lv_at hl 3 rfl) ?_
        refine lv_iconst (v := 1) hx hb dX5_noRelease_22 (by decide) ?_
        obtain ⟨t7, ht7, hf⟩ := bd_o hf
        refine k5_isIn X hP hl.1 qX5_67 ⟨Nat.le_of_ble_eq_true rfl, Nat.le_of_ble_eq_true rfl⟩ ht7 (Nat.le_of_ble_eq_true rfl) dX5_noRelease_23 ⟨Nat.zero_le _, Nat.zero_le _⟩ ?_
        refine lv_if_eq (tgt := 48) hx hb dX5_noRelease_26 (by decide) (fun c8 => ?_) (fun c8 => ?_)
        · have hf := it_t c8 hf
          exact w5_noRelease_48 X hP (K4 := (f5_noRelease_4 v1 n)) ih  (lv_sub hl [0, 1, 3] rfl) hf
        · have hf := it_f c8 hf
          refine lv_aload_n hx hb dX5_noRelease_29 rfl (lv_at hl 0 rfl) ?_
          refine mr_get X hP (k := 0) (v := .ref (ad 1)) (by decide) gfX5_7 rfl dX5_noRelease_30 ?_
          refine lv_iload_n hx hb dX5_noRelease_33 rfl (lv_at hl 3 rfl) ?_
          refine lv_iconst (v := 4) hx hb dX5_noRelease_34 (by decide) ?_
          refine k5_of X.1 hl.1 qX5_43 ⟨Nat.le_of_ble_eq_true rfl, Nat.le_of_ble_eq_true rfl⟩ (Nat.le_of_ble_eq_true rfl) dX5_noRelease_35 ⟨Nat.zero_le _, Nat.zero_le _⟩ ?_
          obtain ⟨hi9, hf⟩ := gd_o hf
          refine mr_ld1 X hP hi9 dX5_noRelease_38 ?_
          refine lv_bipush (v := 10) hx hb dX5_noRelease_39 (by decide) ?_
          refine lv_icmp_ge (tgt := 48) hx hb dX5_noRelease_41 (by decide) (fun c10 => ?_) (fun c10 => ?_)
          · have hf := it_t c10 hf
            exact w5_noRelease_48 X hP (K4 := (f5_noRelease_4 v1 n)) ih  (lv_sub hl [0, 1, 3] rfl) hf
          · have hf := it_f c10 hf
            exact w5_noRelease_44 X hP (K4 := (f5_noRelease_4 v1 n)) ih  (lv_sub hl [0, 1, 3] rfl) hf
def f5_noRelease_0 (v1 : Nat → Int32) (x1 : Int32) : Option (Int32) := f5_noRelease_4 v1 fu x1 0 0
set_option maxRecDepth 100000 in
set_option maxHeartbeats 4000000 in
theorem w5_noRelease_0 {p : Program} {l : Launch} {e : Env} {s : State} {m : MethodId} {args : Array Value} {below : List Frame} {meth : Method} {c : Code} {D : va_G} {cI cZ : ClassId} {ad : Nat → Nat} {v0 v1 v2 v3 v4 v5 v6 v7 v8 : Nat → Int32} (X : mX D cI cZ p s m args meth c cX5_noRelease 4 (some .int)) (hP : va_P D vwCl (mwW cI cZ ad v0 v1 v2 v3 v4 v5 v6 v7 v8) s.heap) {x1 : Int32} {t : Int32}  {ls : Array Slot} (hl : lv_has ls 4 [(0, .ref (ad 0)), (1, .int x1)]) (hf : f5_noRelease_0 v1 x1 = some t) : W p l e rm5_noRelease s m args below meth c s.heap [] 0 0 (MQ below (QcRead t) args s 0 0 (fun _ => False)) (F0 m 0 ls []) := by
  obtain ⟨⟨hx, hb, hml, hown, hts⟩, hr, hlk, hK⟩ := id X
  replace hf : (f5_noRelease_4 v1 fu x1 0 0) = some t := hf
  refine lv_iconst (v := 0) hx hb dX5_noRelease_0 (by decide) ?_
  refine lv_istore_n (lv' := [(2, .int 0), (0, .ref (ad 0)), (1, .int x1)]) hx hb dX5_noRelease_1 rfl hl (by decide) rfl (fun ls hl => ?_)
  refine lv_iconst (v := 0) hx hb dX5_noRelease_2 (by decide) ?_
  refine lv_istore_n (lv' := [(3, .int 0), (2, .int 0), (0, .ref (ad 0)), (1, .int x1)]) hx hb dX5_noRelease_3 rfl hl (by decide) rfl (fun ls hl => ?_)
  exact w5_noRelease_4 X hP _ _ _ _ _ (lv_sub hl [2, 3, 1, 0] rfl) hf
set_option maxRecDepth 100000 in
set_option maxHeartbeats 4000000 in
theorem c5_noRelease (l : Launch) {D : va_G} {cI cZ : ClassId} {ad : Nat → Nat} {v0 v1 v2 v3 v4 v5 v6 v7 v8 : Nat → Int32} (x1 : Int32) {t : Int32} (hf : f5_noRelease_0 v1 x1 = some t) : Met l yX5_noRelease uX5_noRelease rm5_noRelease (va_Pc [.ref (ad 0), .int x1] (mB D cI cZ ad v0 v1 v2 v3 v4 v5 v6 v7 v8)) (QcRead t) 0 0 (fun _ => False) := by
  refine Met.ofW (cc := cX5_noRelease) (maxL := 4) (ret := (some .int)) (by decide) rfl ?_
  intro p e s m args below meth c s₁ B hml hv
  obtain ⟨rfl, hP, hK⟩ := hv
  have X : mX D cI cZ p s m ([.ref (ad 0), .int x1] : List Value).toArray meth c cX5_noRelease 4 (some .int) := ⟨⟨B.exec, B.bytes, hml, findClass_of_methodNamed B.named, fun w h => atoms_spec (ws := uX5_noRelease) B.pre w (List.mem_cons_of_mem _ h)⟩, B.returns, B.notSynchronized, hK⟩
  have hl := lv_entry ([.ref (ad 0), .int x1]) (n := 4) (Nat.le_of_ble_eq_true rfl)
  rw [lg_entry_eq]
  generalize (lg_sl ([.ref (ad 0), .int x1]) ++ List.replicate (4 - (lg_sl ([.ref (ad 0), .int x1])).length) Slot.unset).toArray = ls at hl ⊢
  have hl : lv_has ls 4 [(0, .ref (ad 0)), (1, .int x1)] := hl
  exact w5_noRelease_0 X hP (lv_sub hl [0, 1] rfl) hf
set_option maxRecDepth 100000 in
set_option maxHeartbeats 4000000 in
theorem k5_noRelease {p : Program} {l : Launch} {e : Env} {R : Room} {s : State} {m : MethodId} {args : Array Value} {below : List Frame} {meth : Method} {c : Code} {cc : ByteArray} {nL : Nat} {ret : Option FieldType} {D : va_G} {cI cZ : ClassId} {ad : Nat → Nat} {v0 v1 v2 v3 v4 v5 v6 v7 v8 : Nat → Int32} {H : Heap} {locs : List Loc} {cells slots : Nat} {Q : State → Prop} {pc : Nat} {ls : Array Slot} {rest : List Value} (X : mX D cI cZ p s m args meth c cc nL ret) (hP : va_P D vwCl (mwW cI cZ ad v0 v1 v2 v3 v4 v5 v6 v7 v8) H) (hls : ls.size = nL) {index : Nat} (hG : GoodIn gw (wsV RX5 index RX5 yX5_noRelease uX5_noRelease)) (hR : rm5_noRelease.frames + 1 ≤ R.frames ∧ 8 + (4 + 11) + rm5_noRelease.locals ≤ R.locals) {x1 : Int32} {t : Int32} (hf : f5_noRelease_0 v1 x1 = some t) (hrest : (rest.map fun v => v.category).sum ≤ 8) (hdg : decode cc pc = .ok (.invokevirtual index, 3)) (hc : cells ≤ R.cells ∧ slots ≤ R.slots) (kk : W p l e R s m args below meth c H locs cells slots Q (F0 m (pc + 3) ls (.int t :: rest))) : W p l e R s m args below meth c H locs cells slots Q (F0 m pc ls (.int x1 :: .ref (ad 0) :: rest)) :=
  W.callR (W.runV (As := [.int x1]) X.1 (c5_noRelease l x1 hf) (cwV 1 X.1.2.2.2.2 hG rfl rfl rfl (by decide +kernel) hR) ⟨mB_bl, va_recv X.2.2.2 hP (ci := 5) (q0 := 0) rfl rfl, fun U hU hW => ⟨rfl, by rw [hU]; exact hP, va_K.moved hW.alike X.2.2.2⟩⟩ rfl rfl hls rfl (lv_room hrest) hdg hc) kk
