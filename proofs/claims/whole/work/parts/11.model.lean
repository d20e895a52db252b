/-! OreRailwayModel.noPull(I)I -/
def rm5_noPull : Room := { frames := 4, cells := 0, slots := 0, locals := 86 }
def f5_noPull_34 (v1 : Nat → Int32) (y0 : Int32) : Option (Int32) := some y0
set_option maxRecDepth 100000 in
set_option maxHeartbeats 4000000 in
theorem w5_noPull_34 {p : Program} {l : Launch} {e : Env} {s : State} {m : MethodId} {args : Array Value} {below : List Frame} {meth : Method} {c : Code} {D : va_G} {cI cZ : ClassId} {ad : Nat → Nat} {v0 v1 v2 v3 v4 v5 v6 v7 v8 : Nat → Int32} (X : mX D cI cZ p s m args meth c cX5_noPull 2 (some .int)) (hP : va_P D vwCl (mwW cI cZ ad v0 v1 v2 v3 v4 v5 v6 v7 v8) s.heap) {y0 : Int32} {t : Int32}  {ls : Array Slot} (hl : lv_has ls 2 []) (hf : f5_noPull_34 v1 y0 = some t) : W p l e rm5_noPull s m args below meth c s.heap [] 0 0 (MQ below (QcRead t) args s 0 0 (fun _ => False)) (F0 m 34 ls [.int y0]) := by
  obtain ⟨⟨hx, hb, hml, hown, hts⟩, hr, hlk, hK⟩ := id X
  replace hf : (some y0) = some t := hf
  obtain rfl := so_i hf
  exact rd_i hx hb hr hlk dX5_noPull_34
def f5_noPull_22 (v1 : Nat → Int32) : Option (Int32) := Option.bind (f5_mules_0 v1) (fun t1 => if t1 = 0 then (f5_noPull_34 v1 2) else (f5_noPull_34 v1 0))
set_option maxRecDepth 100000 in
set_option maxHeartbeats 4000000 in
theorem w5_noPull_22 {p : Program} {l : Launch} {e : Env} {s : State} {m : MethodId} {args : Array Value} {below : List Frame} {meth : Method} {c : Code} {D : va_G} {cI cZ : ClassId} {ad : Nat → Nat} {v0 v1 v2 v3 v4 v5 v6 v7 v8 : Nat → Int32} (X : mX D cI cZ p s m args meth c cX5_noPull 2 (some .int)) (hP : va_P D vwCl (mwW cI cZ ad v0 v1 v2 v3 v4 v5 v6 v7 v8) s.heap) {t : Int32}  {ls : Array Slot} (hl : lv_has ls 2 [(0, .ref (ad 0))]) (hf : f5_noPull_22 v1  = some t) : W p l e rm5_noPull s m args below meth c s.heap [] 0 0 (MQ below (QcRead t) args s 0 0 (fun _ => False)) (F0 m 22 ls []) := by
  obtain ⟨⟨hx, hb, hml, hown, hts⟩, hr, hlk, hK⟩ := id X
  replace hf : (Option.bind (f5_mules_0 v1) (fun t1 => if t1 = 0 then (f5_noPull_34 v1 2) else (f5_noPull_34 v1 0))) = some t := hf
  refine lv_aload_n hx hb dX5_noPull_22 rfl (lv_at hl 0 rfl) ?_
  obtain ⟨t1, ht1, hf⟩ := bd_o hf
  refine k5_mules X hP hl.1 qX5_80 ⟨Nat.le_of_ble_eq_true rfl, Nat.le_of_ble_eq_true rfl⟩ ht1 (Nat.le_of_ble_eq_true rfl) dX5_noPull_23 ⟨Nat.zero_le _, Nat.zero_le _⟩ ?_
  refine lv_if_ne (tgt := 33) hx hb dX5_noPull_26 (by decide) (fun c2 => ?_) (fun c2 => ?_)
  · have hf := it_f c2 hf
    refine lv_iconst (v := 0) hx hb dX5_noPull_33 (by decide) ?_
    exact w5_noPull_34 X hP  (lv_sub hl [] rfl) hf
  · have hf := it_t c2 hf
    refine lv_iconst (v := 2) hx hb dX5_noPull_29 (by decide) ?_
    refine lv_goto (tgt := 34) hx hb dX5_noPull_30 (by decide) ?_
    exact w5_noPull_34 X hP  (lv_sub hl [] rfl) hf
def f5_noPull_0 (v1 : Nat → Int32) (x1 : Int32) : Option (Int32) := Option.bind (f5_isIn_0 v1 x1 2) (fun t1 => if t1 = 0 then (Option.bind (f5_isIn_0 v1 x1 3) (fun t3 => if t3 = 0 then (f5_noPull_34 v1 1) else (f5_noPull_22 v1))) else (f5_noPull_22 v1))
set_option maxRecDepth 100000 in
set_option maxHeartbeats 4000000 in
theorem w5_noPull_0 {p : Program} {l : Launch} {e : Env} {s : State} {m : MethodId} {args : Array Value} {below : List Frame} {meth : Method} {c : Code} {D : va_G} {cI cZ : ClassId} {ad : Nat → Nat} {v0 v1 v2 v3 v4 v5 v6 v7 v8 : Nat → Int32} (X : mX D cI cZ p s m args meth c cX5_noPull 2 (some .int)) (hP : va_P D vwCl (mwW cI cZ ad v0 v1 v2 v3 v4 v5 v6 v7 v8) s.heap) {x1 : Int32} {t : Int32}  {ls : Array Slot} (hl : lv_has ls 2 [(0, .ref (ad 0)), (1, .int x1)]) (hf : f5_noPull_0 v1 x1 = some t) : W p l e rm5_noPull s m args below meth c s.heap [] 0 0 (MQ below (QcRead t) args s 0 0 (fun _ => False)) (F0 m 0 ls []) := by
  obtain ⟨⟨hx, hb, hml, hown, hts⟩, hr, hlk, hK⟩ := id X
  replace hf : (Option.bind (f5_isIn_0 v1 x1 2) (fun t1 => if t1 = 0 then (Option.bind (f5_isIn_0 v1 x1 3) (fun t3 => if t3 = 0 then (f5_noPull_34 v1 1) else (f5_noPull_22 v1))) else (f5_noPull_22 v1))) = some t := hf
  refine lv_aload_n hx hb dX5_noPull_0 rfl (lv_at hl 0 rfl) ?_
  refine lv_iload_n hx hb dX5_noPull_1 rfl (lv_at hl 1 rfl) ?_
  refine lv_iconst (v := 2) hx hb dX5_noPull_2 (by decide) ?_
  obtain ⟨t1, ht1, hf⟩ := bd_o hf
  refine k5_isIn X hP hl.1 qX5_67 ⟨Nat.le_of_ble_eq_true rfl, Nat.le_of_ble_eq_true rfl⟩ ht1 (Nat.le_of_ble_eq_true rfl) dX5_noPull_3 ⟨Nat.zero_le _, Nat.zero_le _⟩ ?_
  refine lv_if_ne (tgt := 22) hx hb dX5_noPull_6 (by decide) (fun c2 => ?_) (fun c2 => ?_)
  · have hf := it_f c2 hf
    exact w5_noPull_22 X hP  (lv_sub hl [0] rfl) hf
  · have hf := it_t c2 hf
    refine lv_aload_n hx hb dX5_noPull_9 rfl (lv_at hl 0 rfl) ?_
    refine lv_iload_n hx hb dX5_noPull_10 rfl (lv_at hl 1 rfl) ?_
    refine lv_iconst (v := 3) hx hb dX5_noPull_11 (by decide) ?_
    obtain ⟨t3, ht3, hf⟩ := bd_o hf
    refine k5_isIn X hP hl.1 qX5_67 ⟨Nat.le_of_ble_eq_true rfl, Nat.le_of_ble_eq_true rfl⟩ ht3 (Nat.le_of_ble_eq_true rfl) dX5_noPull_12 ⟨Nat.zero_le _, Nat.zero_le _⟩ ?_
    refine lv_if_ne (tgt := 22) hx hb dX5_noPull_15 (by decide) (fun c4 => ?_) (fun c4 => ?_)
    · have hf := it_f c4 hf
      exact w5_noPull_22 X hP  (lv_sub hl [0] rfl) hf
    · have hf := it_t c4 hf
      refine lv_iconst (v := 1) hx hb dX5_noPull_18 (by decide) ?_
      refine lv_goto (tgt := 34) hx hb dX5_noPull_19 (by decide) ?_
      exact w5_noPull_34 X hP  (lv_sub hl [] rfl) hf
set_option maxRecDepth 100000 in
set_option maxHeartbeats 4000000 in
theorem c5_noPull (l : Launch) {D : va_G} {cI cZ : ClassId} {ad : Nat → Nat} {v0 v1 v2 v3 v4 v5 v6 v7 v8 : Nat → Int32} (x1 : Int32) {t : Int32} (hf : f5_noPull_0 v1 x1 = some t) : Met l yX5_noPull uX5_noPull rm5_noPull (va_Pc [.ref (ad 0), .int x1] (mB D cI cZ ad v0 v1 v2 v3 v4 v5 v6 v7 v8)) (QcRead t) 0 0 (fun _ => False) := by
  refine Met.ofW (cc := cX5_noPull) (maxL := 2) (ret := (some .int)) (by decide) rfl ?_
  intro p e s m args below meth c s₁ B hml hv
  obtain ⟨rfl, hP, hK⟩ := hv
  have X : mX D cI cZ p s m ([.ref (ad 0), .int x1] : List Value).toArray meth c cX5_noPull 2 (some .int) := ⟨⟨B.exec, B.bytes, hml, findClass_of_methodNamed B.named, fun w h => atoms_spec (ws := uX5_noPull) B.pre w (List.mem_cons_of_mem _ h)⟩, B.returns, B.notSynchronized, hK⟩
  have hl := lv_entry ([.ref (ad 0), .int x1]) (n := 2) (Nat.le_of_ble_eq_true rfl)
  rw [lg_entry_eq]
  generalize (lg_sl ([.ref (ad 0), .int x1]) ++ List.replicate (2 - (lg_sl ([.ref (ad 0), .int x1])).length) Slot.unset).toArray = ls at hl ⊢
  have hl : lv_has ls 2 [(0, .ref (ad 0)), (1, .int x1)] := hl
  exact w5_noPull_0 X hP (lv_sub hl [0, 1] rfl) hf
set_option maxRecDepth 100000 in
set_option maxHeartbeats 4000000 in
theorem k5_noPull {p : Program} {l : Launch} {e : Env} {R : Room} {s : State} {m : MethodId} {args : Array Value} {below : List Frame} {meth : Method} {c : Code} {cc : ByteArray} {nL : Nat} {ret : Option FieldType} {D : va_G} {cI cZ : ClassId} {ad : Nat → Nat} {v0 v1 v2 v3 v4 v5 v6 v7 v8 : Nat → Int32} {H : Heap} {locs : List Loc} {cells slots : Nat} {Q : State → Prop} {pc : Nat} {ls : Array Slot} {rest : List Value} (X : mX D cI cZ p s m args meth c cc nL ret) (hP : va_P D vwCl (mwW cI cZ ad v0 v1 v2 v3 v4 v5 v6 v7 v8) H) (hls : ls.size = nL) {index : Nat} (hG : GoodIn gw (wsV RX5 index RX5 yX5_noPull uX5_noPull)) (hR : rm5_noPull.frames + 1 ≤ R.frames ∧ 8 + (2 + 11) + rm5_noPull.locals ≤ R.locals) {x1 : Int32} {t : Int32} (hf : f5_noPull_0 v1 x1 = some t) (hrest : (rest.map fun v => v.category).sum ≤ 8) (hdg : decode cc pc = .ok (.invokevirtual index, 3)) (hc : cells ≤ R.cells ∧ slots ≤ R.slots) (kk : W p l e R s m args below meth c H locs cells slots Q (F0 m (pc + 3) ls (.int t :: rest))) : W p l e R s m args below meth c H locs cells slots Q (F0 m pc ls (.int x1 :: .ref (ad 0) :: rest)) :=
  W.callR (W.runV (As := [.int x1]) X.1 (c5_noPull l x1 hf) (cwV 1 X.1.2.2.2.2 hG rfl rfl rfl (by decide +kernel) hR) ⟨mB_bl, va_recv X.2.2.2 hP (ci := 5) (q0 := 0) rfl rfl, fun U hU hW => ⟨rfl, by rw [hU]; exact hP, va_K.moved hW.alike X.2.2.2⟩⟩ rfl rfl hls rfl (lv_room hrest) hdg hc) kk
/-! OreRailwayModel.releases(II)I -/
def rm5_releases : Room := { frames := 3, cells := 0, slots := 0, locals := 66 }
def f5_releases_0 (x1 : Int32) (x2 : Int32) (v1 : Nat → Int32) : Option (Int32 × (Nat → Int32)) := Option.bind (f5_noRelease_0 v1 x1) (fun t1 => if t1 ≤ 0 then (gd (e5_of x1 0) 171 (gd (e5_of x1 2) 171 (some (0, upd (upd v1 (Int32.toNatClampNeg (e5_of x1 0)) 1) (Int32.toNatClampNeg (e5_of x1 2)) x2)))) else (gd 167 171 (gd 167 171 (some (t1, upd v1 (Int32.toNatClampNeg 167) ((v1 (Int32.toNatClampNeg 167)) + 1))))))
set_option maxRecDepth 100000 in
set_option maxHeartbeats 4000000 in
theorem w5_releases_0 {p : Program} {l : Launch} {e : Env} {s : State} {m : MethodId} {args : Array Value} {below : List Frame} {meth : Method} {c : Code} {D : va_G} {cI cZ : ClassId} {ad : Nat → Nat} {v0 v1 v2 v3 v4 v5 v6 v7 v8 : Nat → Int32} (X : mX D cI cZ p s m args meth c cX5_releases 4 (some .int)) (hI : mInj ad) {x1 : Int32} {x2 : Int32} {t : Int32 × (Nat → Int32)}  {H : Heap} {locs : List Loc} (hH : mH D cI cZ ad v0 v1 v2 v3 v4 v5 v6 v7 v8 s H locs) {ls : Array Slot} (hl : lv_has ls 4 [(0, .ref (ad 0)), (1, .int x1), (2, .int x2)]) (hf : f5_releases_0 x1 x2 v1 = some t) : W p l e rm5_releases s m args below meth c H locs 0 0 (MQ below (va_Qi (fun (r9 : Int32) (_ : Unit) => r9 = t.1) (fun _ t9 => mB D cI cZ ad v0 t.2 v2 v3 v4 v5 v6 v7 v8 t9) (mA ad s.heap.size)) args s 0 0 (mA ad s.heap.size)) (F0 m 0 ls []) := by
  obtain ⟨⟨hx, hb, hml, hown, hts⟩, hr, hlk, hK⟩ := id X
  replace hf : (Option.bind (f5_noRelease_0 v1 x1) (fun t1 => if t1 ≤ 0 then (gd (e5_of x1 0) 171 (gd (e5_of x1 2) 171 (some (0, upd (upd v1 (Int32.toNatClampNeg (e5_of x1 0)) 1) (Int32.toNatClampNeg (e5_of x1 2)) x2)))) else (gd 167 171 (gd 167 171 (some (t1, upd v1 (Int32.toNatClampNeg 167) ((v1 (Int32.toNatClampNeg 167)) + 1))))))) = some t := hf
  refine lv_aload_n hx hb dX5_releases_0 rfl (lv_at hl 0 rfl) ?_
  refine lv_iload_n hx hb dX5_releases_1 rfl (lv_at hl 1 rfl) ?_
  obtain ⟨t1, ht1, hf⟩ := bd_o hf
  refine k5_noRelease X hH.1 hl.1 qX5_83 ⟨Nat.le_of_ble_eq_true rfl, Nat.le_of_ble_eq_true rfl⟩ ht1 (Nat.le_of_ble_eq_true rfl) dX5_releases_2 ⟨Nat.zero_le _, Nat.zero_le _⟩ ?_
  refine lv_istore_n (lv' := [(3, .int t1), (0, .ref (ad 0)), (1, .int x1), (2, .int x2)]) hx hb dX5_releases_5 rfl hl (by decide) rfl (fun ls hl => ?_)
  refine lv_iload_n hx hb dX5_releases_6 rfl (lv_at hl 0 rfl) ?_
  refine lv_if_le (tgt := 24) hx hb dX5_releases_7 (by decide) (fun c2 => ?_) (fun c2 => ?_)
  · have hf := it_t c2 hf
    refine lv_aload_n hx hb dX5_releases_24 rfl (lv_at hl 1 rfl) ?_
    refine mr_get X hH.1 (k := 0) (v := .ref (ad 1)) (by decide) gfX5_7 rfl dX5_releases_25 ?_
    refine lv_iload_n hx hb dX5_releases_28 rfl (lv_at hl 2 rfl) ?_
    refine lv_iconst (v := 0) hx hb dX5_releases_29 (by decide) ?_
    refine k5_of X.1 hl.1 qX5_43 ⟨Nat.le_of_ble_eq_true rfl, Nat.le_of_ble_eq_true rfl⟩ (Nat.le_of_ble_eq_true rfl) dX5_releases_30 ⟨Nat.zero_le _, Nat.zero_le _⟩ ?_
    refine lv_iconst (v := 1) hx hb dX5_releases_33 (by decide) ?_
    obtain ⟨hi3, hf⟩ := gd_o hf
    refine mr_st1 X hI hH hi3 dX5_releases_34 (fun H locs hH => ?_)
    refine lv_aload_n hx hb dX5_releases_35 rfl (lv_at hl 1 rfl) ?_
    refine mr_get X hH.1 (k := 0) (v := .ref (ad 1)) (by decide) gfX5_7 rfl dX5_releases_36 ?_
    refine lv_iload_n hx hb dX5_releases_39 rfl (lv_at hl 2 rfl) ?_
    refine lv_iconst (v := 2) hx hb dX5_releases_40 (by decide) ?_
    refine k5_of X.1 hl.1 qX5_43 ⟨Nat.le_of_ble_eq_true rfl, Nat.le_of_ble_eq_true rfl⟩ (Nat.le_of_ble_eq_true rfl) dX5_releases_41 ⟨Nat.zero_le _, Nat.zero_le _⟩ ?_
    refine lv_iload_n hx hb dX5_releases_44 rfl (lv_at hl 3 rfl) ?_
    obtain ⟨hi4, hf⟩ := gd_o hf
    refine mr_st1 X hI hH hi4 dX5_releases_45 (fun H locs hH => ?_)
    refine lv_iconst (v := 0) hx hb dX5_releases_46 (by decide) ?_
    obtain rfl := so_i hf
    exact mr_iw X hH rfl dX5_releases_47
  · have hf := it_f c2 hf
    refine lv_aload_n hx hb dX5_releases_10 rfl (lv_at hl 1 rfl) ?_
    refine mr_get X hH.1 (k := 0) (v := .ref (ad 1)) (by decide) gfX5_7 rfl dX5_releases_11 ?_
    refine lv_sipush (v := 167) hx hb dX5_releases_14 (by decide) ?_
    refine lv_dup2_11 hx hb dX5_releases_17 rfl rfl ?_
    obtain ⟨hi5, hf⟩ := gd_o hf
    refine mr_ld1 X hH.1 hi5 dX5_releases_18 ?_
    refine lv_iconst (v := 1) hx hb dX5_releases_19 (by decide) ?_
    refine lv_iadd hx hb dX5_releases_20 ?_
    obtain ⟨hi6, hf⟩ := gd_o hf
    refine mr_st1 X hI hH hi6 dX5_releases_21 (fun H locs hH => ?_)
    refine lv_iload_n hx hb dX5_releases_22 rfl (lv_at hl 0 rfl) ?_
    obtain rfl := so_i hf
    exact mr_iw X hH rfl dX5_releases_23
set_option maxRecDepth 100000 in
set_option maxHeartbeats 4000000 in
theorem c5_releases (l : Launch) {D : va_G} {cI cZ : ClassId} {ad : Nat → Nat} {v0 v1 v2 v3 v4 v5 v6 v7 v8 : Nat → Int32} (hI : mInj ad) (sz : Nat) (x1 : Int32) (x2 : Int32) {t : Int32 × (Nat → Int32)} (hf : f5_releases_0 x1 x2 v1 = some t) : Met l yX5_releases uX5_releases rm5_releases (va_Pc [.ref (ad 0), .int x1, .int x2] (fun U => U.heap.size = sz ∧ mB D cI cZ ad v0 v1 v2 v3 v4 v5 v6 v7 v8 U)) (va_Qi (fun (r9 : Int32) (_ : Unit) => r9 = t.1) (fun _ t9 => mB D cI cZ ad v0 t.2 v2 v3 v4 v5 v6 v7 v8 t9) (mA ad sz)) 0 0 (mA ad sz) := by
  refine Met.ofW (cc := cX5_releases) (maxL := 4) (ret := (some .int)) (by decide) rfl ?_
  intro p e s m args below meth c s₁ B hml hv
  obtain ⟨rfl, hsz, hP, hK⟩ := hv
  subst hsz
  have X : mX D cI cZ p s m ([.ref (ad 0), .int x1, .int x2] : List Value).toArray meth c cX5_releases 4 (some .int) := ⟨⟨B.exec, B.bytes, hml, findClass_of_methodNamed B.named, fun w h => atoms_spec (ws := uX5_releases) B.pre w (List.mem_cons_of_mem _ h)⟩, B.returns, B.notSynchronized, hK⟩
  have hl := lv_entry ([.ref (ad 0), .int x1, .int x2]) (n := 4) (Nat.le_of_ble_eq_true rfl)
  rw [lg_entry_eq]
  generalize (lg_sl ([.ref (ad 0), .int x1, .int x2]) ++ List.replicate (4 - (lg_sl ([.ref (ad 0), .int x1, .int x2])).length) Slot.unset).toArray = ls at hl ⊢
  have hl : lv_has ls 4 [(0, .ref (ad 0)), (1, .int x1), (2, .int x2)] := hl
  exact w5_releases_0 X hI ⟨hP, va_S.rf⟩ (lv_sub hl [0, 1, 2] rfl) hf
set_option maxRecDepth 100000 in
set_option maxHeartbeats 4000000 in
theorem k5_releases {p : Program} {l : Launch} {e : Env} {R : Room} {s : State} {m : MethodId} {args : Array Value} {below : List Frame} {meth : Method} {c : Code} {cc : ByteArray} {nL : Nat} {ret : Option FieldType} {D : va_G} {cI cZ : ClassId} {ad : Nat → Nat} {v0 v1 v2 v3 v4 v5 v6 v7 v8 : Nat → Int32} {H : Heap} {locs : List Loc} {cells slots : Nat} {Q : State → Prop} {pc : Nat} {ls : Array Slot} {rest : List Value} (X : mX D cI cZ p s m args meth c cc nL ret) (hI : mInj ad) (hH : mH D cI cZ ad v0 v1 v2 v3 v4 v5 v6 v7 v8 s H locs) (hls : ls.size = nL) {index : Nat} (hG : GoodIn gw (wsV RX5 index RX5 yX5_releases uX5_releases)) (hR : rm5_releases.frames + 1 ≤ R.frames ∧ 8 + (4 + 11) + rm5_releases.locals ≤ R.locals) {x1 : Int32} {x2 : Int32} {t : Int32 × (Nat → Int32)} (hf : f5_releases_0 x1 x2 v1 = some t) (hrest : (rest.map fun v => v.category).sum ≤ 8) (hdg : decode cc pc = .ok (.invokevirtual index, 3)) (hc : cells ≤ R.cells ∧ slots ≤ R.slots) (kk : ∀ (H1 : Heap) (locs1 : List Loc), mH D cI cZ ad v0 t.2 v2 v3 v4 v5 v6 v7 v8 s H1 locs1 → W p l e R s m args below meth c H1 locs1 cells slots Q (F0 m (pc + 3) ls (.int t.1 :: rest))) : W p l e R s m args below meth c H locs cells slots Q (F0 m pc ls (.int x2 :: .int x1 :: .ref (ad 0) :: rest)) := by
  have hA : ∀ q, mA ad H.size q → mA ad s.heap.size q := fun q h => h.elim Or.inl (fun h => Or.inr (Nat.le_trans hH.2.1 h))
  refine va_calli (va_runV (As := [.int x1, .int x2]) (rest := rest) X.1 (c5_releases l hI H.size x1 x2 hf) (cwV 2 X.1.2.2.2.2 hG rfl rfl rfl (by decide +kernel) hR) ⟨mBs_bl, va_recv X.2.2.2 hH.1 (ci := 5) (q0 := 0) rfl rfl, fun U hU hW => ⟨rfl, by rw [hU], by rw [hU]; exact hH.1, va_K.moved hW.alike X.2.2.2⟩⟩ rfl rfl hls rfl (lv_room hrest) hdg hc) hH.2 (fun q _ h => hA q h) hA (fun r9 u t9 H1 locs1 ht hvm hw hB hz1 hk1 hS => ?_)
  subst hw
  exact kk H1 locs1 ⟨by rw [← ht]; exact hB.1, hS⟩
/-! OreRailwayModel.pulls(I)I -/
def rm5_pulls : Room := { frames := 5, cells := 0, slots := 0, locals := 107 }
def f5_pulls_0 (x1 : Int32) (v1 : Nat → Int32) : Option (Int32 × (Nat → Int32)) := Option.bind (f5_noPull_0 v1 x1) (fun t1 => if t1 ≤ 0 then (gd (e5_of x1 0) 171 (gd (e5_of x1 2) 171 (some (0, upd (upd v1 (Int32.toNatClampNeg (e5_of x1 0)) 4) (Int32.toNatClampNeg (e5_of x1 2)) 0)))) else (gd 167 171 (gd 167 171 (some (t1, upd v1 (Int32.toNatClampNeg 167) ((v1 (Int32.toNatClampNeg 167)) + 1))))))
set_option maxRecDepth 100000 in
set_option maxHeartbeats 4000000 in
theorem w5_pulls_0 {p : Program} {l : Launch} {e : Env} {s : State} {m : MethodId} {args : Array Value} {below : List Frame} {meth : Method} {c : Code} {D : va_G} {cI cZ : ClassId} {ad : Nat → Nat} {v0 v1 v2 v3 v4 v5 v6 v7 v8 : Nat → Int32} (X : mX D cI cZ p s m args meth c cX5_pulls 3 (some .int)) (hI : mInj ad) {x1 : Int32} {t : Int32 × (Nat → Int32)}  {H : Heap} {locs : List Loc} (hH : mH D cI cZ ad v0 v1 v2 v3 v4 v5 v6 v7 v8 s H locs) {ls : Array Slot} (hl : lv_has ls 3 [(0, .ref (ad 0)), (1, .int x1)]) (hf : f5_pulls_0 x1 v1 = some t) : W p l e rm5_pulls s m args below meth c H locs 0 0 (MQ below (va_Qi (fun (r9 : Int32) (_ : Unit) => r9 = t.1) (fun _ t9 => mB D cI cZ ad v0 t.2 v2 v3 v4 v5 v6 v7 v8 t9) (mA ad s.heap.size)) args s 0 0 (mA ad s.heap.size)) (F0 m 0 ls []) := by
  obtain ⟨⟨hx, hb, hml, hown, hts⟩, hr, hlk, hK⟩ := id X
  replace hf : (Option.bind (f5_noPull_0 v1 x1) (fun t1 => if t1 ≤ 0 then (gd (e5_of x1 0) 171 (gd (e5_of x1 2) 171 (some (0, upd (upd v1 (Int32.toNatClampNeg (e5_of x1 0)) 4) (Int32.toNatClampNeg (e5_of x1 2)) 0)))) else (gd 167 171 (gd 167 171 (some (t1, upd v1 (Int32.toNatClampNeg 167) ((v1 (Int32.toNatClampNeg 167)) + 1))))))) = some t := hf
  refine lv_aload_n hx hb dX5_pulls_0 rfl (lv_at hl 0 rfl) ?_
  refine lv_iload_n hx hb dX5_pulls_1 rfl (lv_at hl 1 rfl) ?_
  obtain ⟨t1, ht1, hf⟩ := bd_o hf
  refine k5_noPull X hH.1 hl.1 qX5_87 ⟨Nat.le_of_ble_eq_true rfl, Nat.le_of_ble_eq_true rfl⟩ ht1 (Nat.le_of_ble_eq_true rfl) dX5_pulls_2 ⟨Nat.zero_le _, Nat.zero_le _⟩ ?_
  refine lv_istore_n (lv' := [(2, .int t1), (0, .ref (ad 0)), (1, .int x1)]) hx hb dX5_pulls_5 rfl hl (by decide) rfl (fun ls hl => ?_)
  refine lv_iload_n hx hb dX5_pulls_6 rfl (lv_at hl 0 rfl) ?_
  refine lv_if_le (tgt := 24) hx hb dX5_pulls_7 (by decide) (fun c2 => ?_) (fun c2 => ?_)
  · have hf := it_t c2 hf
    refine lv_aload_n hx hb dX5_pulls_24 rfl (lv_at hl 1 rfl) ?_
    refine mr_get X hH.1 (k := 0) (v := .ref (ad 1)) (by decide) gfX5_7 rfl dX5_pulls_25 ?_
    refine lv_iload_n hx hb dX5_pulls_28 rfl (lv_at hl 2 rfl) ?_
    refine lv_iconst (v := 0) hx hb dX5_pulls_29 (by decide) ?_
    refine k5_of X.1 hl.1 qX5_43 ⟨Nat.le_of_ble_eq_true rfl, Nat.le_of_ble_eq_true rfl⟩ (Nat.le_of_ble_eq_true rfl) dX5_pulls_30 ⟨Nat.zero_le _, Nat.zero_le _⟩ ?_
    refine lv_iconst (v := 4) hx hb dX5_pulls_33 (by decide) ?_
    obtain ⟨hi3, hf⟩ := gd_o hf
    refine mr_st1 X hI hH hi3 dX5_pulls_34 (fun H locs hH => ?_)
    refine lv_aload_n hx hb dX5_pulls_35 rfl (lv_at hl 1 rfl) ?_
    refine mr_get X hH.1 (k := 0) (v := .ref (ad 1)) (by decide) gfX5_7 rfl dX5_pulls_36 ?_
    refine lv_iload_n hx hb dX5_pulls_39 rfl (lv_at hl 2 rfl) ?_
    refine lv_iconst (v := 2) hx hb dX5_pulls_40 (by decide) ?_
    refine k5_of X.1 hl.1 qX5_43 ⟨Nat.le_of_ble_eq_true rfl, Nat.le_of_ble_eq_true rfl⟩ (Nat.le_of_ble_eq_true rfl) dX5_pulls_41 ⟨Nat.zero_le _, Nat.zero_le _⟩ ?_
    refine lv_iconst (v := 0) hx hb dX5_pulls_44 (by decide) ?_
    obtain ⟨hi4, hf⟩ := gd_o hf
    refine mr_st1 X hI hH hi4 dX5_pulls_45 (fun H locs hH => ?_)
    refine lv_iconst (v := 0) hx hb dX5_pulls_46 (by decide) ?_
    obtain rfl := so_i hf
    exact mr_iw X hH rfl dX5_pulls_47
  · have hf := it_f c2 hf
    refine lv_aload_n hx hb dX5_pulls_10 rfl (lv_at hl 1 rfl) ?_
    refine mr_get X hH.1 (k := 0) (v := .ref (ad 1)) (by decide) gfX5_7 rfl dX5_pulls_11 ?_
    refine lv_sipush (v := 167) hx hb dX5_pulls_14 (by decide) ?_
    refine lv_dup2_11 hx hb dX5_pulls_17 rfl rfl ?_
    obtain ⟨hi5, hf⟩ := gd_o hf
    refine mr_ld1 X hH.1 hi5 dX5_pulls_18 ?_
    refine lv_iconst (v := 1) hx hb dX5_pulls_19 (by decide) ?_
    refine lv_iadd hx hb dX5_pulls_20 ?_
    obtain ⟨hi6, hf⟩ := gd_o hf
    refine mr_st1 X hI hH hi6 dX5_pulls_21 (fun H locs hH => ?_)
    refine lv_iload_n hx hb dX5_pulls_22 rfl (lv_at hl 0 rfl) ?_
    obtain rfl := so_i hf
    exact mr_iw X hH rfl dX5_pulls_23
set_option maxRecDepth 100000 in
set_option maxHeartbeats 4000000 in
theorem c5_pulls (l : Launch) {D : va_G} {cI cZ : ClassId} {ad : Nat → Nat} {v0 v1 v2 v3 v4 v5 v6 v7 v8 : Nat → Int32} (hI : mInj ad) (sz : Nat) (x1 : Int32) {t : Int32 × (Nat → Int32)} (hf : f5_pulls_0 x1 v1 = some t) : Met l yX5_pulls uX5_pulls rm5_pulls (va_Pc [.ref (ad 0), .int x1] (fun U => U.heap.size = sz ∧ mB D cI cZ ad v0 v1 v2 v3 v4 v5 v6 v7 v8 U)) (va_Qi (fun (r9 : Int32) (_ : Unit) => r9 = t.1) (fun _ t9 => mB D cI cZ ad v0 t.2 v2 v3 v4 v5 v6 v7 v8 t9) (mA ad sz)) 0 0 (mA ad sz) := by
  refine Met.ofW (cc := cX5_pulls) (maxL := 3) (ret := (some .int)) (by decide) rfl ?_
  intro p e s m args below meth c s₁ B hml hv
  obtain ⟨rfl, hsz, hP, hK⟩ := hv
  subst hsz
  have X : mX D cI cZ p s m ([.ref (ad 0), .int x1] : List Value).toArray meth c cX5_pulls 3 (some .int) := ⟨⟨B.exec, B.bytes, hml, findClass_of_methodNamed B.named, fun w h => atoms_spec (ws := uX5_pulls) B.pre w (List.mem_cons_of_mem _ h)⟩, B.returns, B.notSynchronized, hK⟩
  have hl := lv_entry ([.ref (ad 0), .int x1]) (n := 3) (Nat.le_of_ble_eq_true rfl)
  rw [lg_entry_eq]
  generalize (lg_sl ([.ref (ad 0), .int x1]) ++ List.replicate (3 - (lg_sl ([.ref (ad 0), .int x1])).length) Slot.unset).toArray = ls at hl ⊢
  have hl : lv_has ls 3 [(0, .ref (ad 0)), (1, .int x1)] := hl
  exact w5_pulls_0 X hI ⟨hP, va_S.rf⟩ (lv_sub hl [0, 1] rfl) hf
set_option maxRecDepth 100000 in
set_option maxHeartbeats 4000000 in
theorem k5_pulls {p : Program} {l : Launch} {e : Env} {R : Room} {s : State} {m : MethodId} {args : Array Value} {below : List Frame} {meth : Method} {c : Code} {cc : ByteArray} {nL : Nat} {ret : Option FieldType} {D : va_G} {cI cZ : ClassId} {ad : Nat → Nat} {v0 v1 v2 v3 v4 v5 v6 v7 v8 : Nat → Int32} {H : Heap} {locs : List Loc} {cells slots : Nat} {Q : State → Prop} {pc : Nat} {ls : Array Slot} {rest : List Value} (X : mX D cI cZ p s m args meth c cc nL ret) (hI : mInj ad) (hH : mH D cI cZ ad v0 v1 v2 v3 v4 v5 v6 v7 v8 s H locs) (hls : ls.size = nL) {index : Nat} (hG : GoodIn gw (wsV RX5 index RX5 yX5_pulls uX5_pulls)) (hR : rm5_pulls.frames + 1 ≤ R.frames ∧ 8 + (3 + 11) + rm5_pulls.locals ≤ R.locals) {x1 : Int32} {t : Int32 × (Nat → Int32)} (hf : f5_pulls_0 x1 v1 = some t) (hrest : (rest.map fun v => v.category).sum ≤ 8) (hdg : decode cc pc = .ok (.invokevirtual index, 3)) (hc : cells ≤ R.cells ∧ slots ≤ R.slots) (kk : ∀ (H1 : Heap) (locs1 : List Loc), mH D cI cZ ad v0 t.2 v2 v3 v4 v5 v6 v7 v8 s H1 locs1 → W p l e R s m args below meth c H1 locs1 cells slots Q (F0 m (pc + 3) ls (.int t.1 :: rest))) : W p l e R s m args below meth c H locs cells slots Q (F0 m pc ls (.int x1 :: .ref (ad 0) :: rest)) := by
  have hA : ∀ q, mA ad H.size q → mA ad s.heap.size q := fun q h => h.elim Or.inl (fun h => Or.inr (Nat.le_trans hH.2.1 h))
  refine va_calli (va_runV (As := [.int x1]) (rest := rest) X.1 (c5_pulls l hI H.size x1 hf) (cwV 1 X.1.2.2.2.2 hG rfl rfl rfl (by decide +kernel) hR) ⟨mBs_bl, va_recv X.2.2.2 hH.1 (ci := 5) (q0 := 0) rfl rfl, fun U hU hW => ⟨rfl, by rw [hU], by rw [hU]; exact hH.1, va_K.moved hW.alike X.2.2.2⟩⟩ rfl rfl hls rfl (lv_room hrest) hdg hc) hH.2 (fun q _ h => hA q h) hA (fun r9 u t9 H1 locs1 ht hvm hw hB hz1 hk1 hS => ?_)
  subst hw
  exact kk H1 locs1 ⟨by rw [← ht]; exact hB.1, hS⟩
/-! OreRailwayModel.isBrake(I)Z -/
def rm5_isBrake : Room := { frames := 1, cells := 0, slots := 0, locals := 22 }
def f5_isBrake_0 (x0 : Int32) : Option (Int32) := Option.bind (f5_in_0 x0 0 9) (fun t1 => gz t1 (some t1))
set_option maxRecDepth 100000 in
set_option maxHeartbeats 4000000 in
theorem w5_isBrake_0 {p : Program} {l : Launch} {e : Env} {s : State} {m : MethodId} {args : Array Value} {below : List Frame} {meth : Method} {c : Code} (X : sX p s m args meth c cX5_isBrake 1 RX5 (some .boolean)) {x0 : Int32} {t : Int32}  {ls : Array Slot} (hl : lv_has ls 1 [(0, .int x0)]) (hf : f5_isBrake_0 x0 = some t) : W p l e rm5_isBrake s m args below meth c s.heap [] 0 0 (MQ below (QcRead t) args s 0 0 (fun _ => False)) (F0 m 0 ls []) := by
  obtain ⟨⟨hx, hb, hml, hown, hts⟩, hr, hlk⟩ := id X
  replace hf : (Option.bind (f5_in_0 x0 0 9) (fun t1 => gz t1 (some t1))) = some t := hf
  refine lv_iload_n hx hb dX5_isBrake_0 rfl (lv_at hl 0 rfl) ?_
  refine lv_iconst (v := 0) hx hb dX5_isBrake_1 (by decide) ?_
  refine lv_bipush (v := 9) hx hb dX5_isBrake_2 (by decide) ?_
  obtain ⟨t1, ht1, hf⟩ := bd_o hf
  refine k5_in X.1 hl.1 qX5_39 ⟨Nat.le_of_ble_eq_true rfl, Nat.le_of_ble_eq_true rfl⟩ ht1 (Nat.le_of_ble_eq_true rfl) dX5_isBrake_4 ⟨Nat.zero_le _, Nat.zero_le _⟩ ?_
  obtain ⟨hz, hf⟩ := gz_o hf
  obtain rfl := so_i hf
  exact rd_z hx hb hr hlk (nz_z hz) dX5_isBrake_7
set_option maxRecDepth 100000 in
set_option maxHeartbeats 4000000 in
theorem c5_isBrake (l : Launch) (x0 : Int32) {t : Int32} (hf : f5_isBrake_0 x0 = some t) : Met l yX5_isBrake uX5_isBrake rm5_isBrake (fun v _ => v = ([.int x0] : List Value).toArray) (QcRead t) 0 0 (fun _ => False) := by
  refine Met.ofW (cc := cX5_isBrake) (maxL := 1) (ret := (some .boolean)) (by decide) rfl ?_
  intro p e s m args below meth c s₁ B hml hv
  obtain rfl := hv
  have X : sX p s m ([.int x0] : List Value).toArray meth c cX5_isBrake 1 RX5 (some .boolean) := ⟨⟨B.exec, B.bytes, hml, findClass_of_methodNamed B.named, fun w h => atoms_spec (ws := uX5_isBrake) B.pre w (List.mem_cons_of_mem _ h)⟩, B.returns, B.notSynchronized⟩
  have hl := lv_entry ([.int x0]) (n := 1) (Nat.le_of_ble_eq_true rfl)
  rw [lg_entry_eq]
  generalize (lg_sl ([.int x0]) ++ List.replicate (1 - (lg_sl ([.int x0])).length) Slot.unset).toArray = ls at hl ⊢
  have hl : lv_has ls 1 [(0, .int x0)] := hl
  exact w5_isBrake_0 X (lv_sub hl [0] rfl) hf
set_option maxRecDepth 100000 in
set_option maxHeartbeats 4000000 in
theorem k5_isBrake {p : Program} {l : Launch} {e : Env} {R : Room} {s : State} {m : MethodId} {args : Array Value} {below : List Frame} {meth : Method} {c : Code} {cc : ByteArray} {nL : Nat} {own : String} {H : Heap} {locs : List Loc} {cells slots : Nat} {Q : State → Prop} {pc : Nat} {ls : Array Slot} {rest : List Value} (S : CallFix p m c cc nL s args gw own) (hls : ls.size = nL) {index : Nat} (hG : GoodIn gw (va_wsS own index yX5_isBrake uX5_isBrake)) (hR : rm5_isBrake.frames + 1 ≤ R.frames ∧ 8 + (1 + 11) + rm5_isBrake.locals ≤ R.locals) {x0 : Int32} {t : Int32} (hf : f5_isBrake_0 x0 = some t) (hrest : (rest.map fun v => v.category).sum ≤ 8) (hdg : decode cc pc = .ok (.invokestatic index, 3)) (hc : cells ≤ R.cells ∧ slots ≤ R.slots) (kk : W p l e R s m args below meth c H locs cells slots Q (F0 m (pc + 3) ls (.int t :: rest))) : W p l e R s m args below meth c H locs cells slots Q (F0 m pc ls (.int x0 :: rest)) :=
  W.callR (W.runS S (c5_isBrake l x0 hf) (va_cwS 1 S.2.2.2.2 hG rfl rfl rfl (by decide +kernel) hR) preEq rfl rfl hls rfl (lv_room hrest) hdg hc) kk
/-! OreRailwayModel.release(II)I -/
def rm5_release : Room := { frames := 4, cells := 0, slots := 0, locals := 89 }
def f5_release_25 (x1 : Int32) (x2 : Int32) (y0 : Int32) (v0 : Nat → Int32) (v1 : Nat → Int32) (v3 : Nat → Int32) : Option (Int32 × (Nat → Int32) × (Nat → Int32) × (Nat → Int32)) := Option.bind (f5_refused_0 y0 v0) (fun t1 => if t1.1 = 0 then (Option.bind (f5_saves_0 v1 t1.2 v3) (fun t3 => Option.bind (f5_releases_0 x1 x2 v1) (fun t4 => some (t4.1, t3.1, t4.2, t3.2)))) else (some (0, t1.2, v1, v3)))
set_option maxRecDepth 100000 in
set_option maxHeartbeats 4000000 in
theorem w5_release_25 {p : Program} {l : Launch} {e : Env} {s : State} {m : MethodId} {args : Array Value} {below : List Frame} {meth : Method} {c : Code} {D : va_G} {cI cZ : ClassId} {ad : Nat → Nat} {v0 v1 v2 v3 v4 v5 v6 v7 v8 : Nat → Int32} (X : mX D cI cZ p s m args meth c cX5_release 3 (some .int)) (hI : mInj ad) {x1 : Int32} {x2 : Int32} {y0 : Int32} {t : Int32 × (Nat → Int32) × (Nat → Int32) × (Nat → Int32)}  {H : Heap} {locs : List Loc} (hH : mH D cI cZ ad v0 v1 v2 v3 v4 v5 v6 v7 v8 s H locs) {ls : Array Slot} (hl : lv_has ls 3 [(0, .ref (ad 0)), (1, .int x1), (2, .int x2)]) (hf : f5_release_25 x1 x2 y0 v0 v1 v3 = some t) : W p l e rm5_release s m args below meth c H locs 0 0 (MQ below (va_Qi (fun (r9 : Int32) (_ : Unit) => r9 = t.1) (fun _ t9 => mB D cI cZ ad t.2.1 t.2.2.1 v2 t.2.2.2 v4 v5 v6 v7 v8 t9) (mA ad s.heap.size)) args s 0 0 (mA ad s.heap.size)) (F0 m 25 ls [.int y0, .ref (ad 0)]) := by
  obtain ⟨⟨hx, hb, hml, hown, hts⟩, hr, hlk, hK⟩ := id X
  replace hf : (Option.bind (f5_refused_0 y0 v0) (fun t1 => if t1.1 = 0 then (Option.bind (f5_saves_0 v1 t1.2 v3) (fun t3 => Option.bind (f5_releases_0 x1 x2 v1) (fun t4 => some (t4.1, t3.1, t4.2, t3.2)))) else (some (0, t1.2, v1, v3)))) = some t := hf
  obtain ⟨t1, ht1, hf⟩ := bd_o hf
  refine k5_refused X hI hH hl.1 qX5_50 ⟨Nat.le_of_ble_eq_true rfl, Nat.le_of_ble_eq_true rfl⟩ ht1 (Nat.le_of_ble_eq_true rfl) dX5_release_25 ⟨Nat.zero_le _, Nat.zero_le _⟩ (fun H locs hH => ?_)
  refine lv_if_eq (tgt := 33) hx hb dX5_release_28 (by decide) (fun c2 => ?_) (fun c2 => ?_)
  · have hf := it_t c2 hf
    refine lv_aload_n hx hb dX5_release_33 rfl (lv_at hl 0 rfl) ?_
    obtain ⟨t3, ht3, hf⟩ := bd_o hf
    refine k5_saves X hI hH hl.1 qX5_54 ⟨Nat.le_of_ble_eq_true rfl, Nat.le_of_ble_eq_true rfl⟩ ht3 (Nat.le_of_ble_eq_true rfl) dX5_release_34 ⟨Nat.zero_le _, Nat.zero_le _⟩ (fun H locs hH => ?_)
    refine lv_aload_n hx hb dX5_release_37 rfl (lv_at hl 0 rfl) ?_
    refine lv_iload_n hx hb dX5_release_38 rfl (lv_at hl 1 rfl) ?_
    refine lv_iload_n hx hb dX5_release_39 rfl (lv_at hl 2 rfl) ?_
    obtain ⟨t4, ht4, hf⟩ := bd_o hf
    refine k5_releases X hI hH hl.1 qX5_93 ⟨Nat.le_of_ble_eq_true rfl, Nat.le_of_ble_eq_true rfl⟩ ht4 (Nat.le_of_ble_eq_true rfl) dX5_release_40 ⟨Nat.zero_le _, Nat.zero_le _⟩ (fun H locs hH => ?_)
    obtain rfl := so_i hf
    exact mr_iw X hH rfl dX5_release_43
  · have hf := it_f c2 hf
    refine lv_iconst (v := 0) hx hb dX5_release_31 (by decide) ?_
    obtain rfl := so_i hf
    exact mr_iw X hH rfl dX5_release_32
def f5_release_0 (x1 : Int32) (x2 : Int32) (v0 : Nat → Int32) (v1 : Nat → Int32) (v3 : Nat → Int32) : Option (Int32 × (Nat → Int32) × (Nat → Int32) × (Nat → Int32)) := Option.bind (f5_isCar_0 v1 x1) (fun t1 => if t1 = 0 then (f5_release_25 x1 x2 1 v0 v1 v3) else (Option.bind (f5_isBrake_0 x2) (fun t3 => if t3 = 0 then (f5_release_25 x1 x2 2 v0 v1 v3) else (f5_release_25 x1 x2 0 v0 v1 v3))))
set_option maxRecDepth 100000 in
set_option maxHeartbeats 4000000 in
theorem w5_release_0 {p : Program} {l : Launch} {e : Env} {s : State} {m : MethodId} {args : Array Value} {below : List Frame} {meth : Method} {c : Code} {D : va_G} {cI cZ : ClassId} {ad : Nat → Nat} {v0 v1 v2 v3 v4 v5 v6 v7 v8 : Nat → Int32} (X : mX D cI cZ p s m args meth c cX5_release 3 (some .int)) (hI : mInj ad) {x1 : Int32} {x2 : Int32} {t : Int32 × (Nat → Int32) × (Nat → Int32) × (Nat → Int32)}  {H : Heap} {locs : List Loc} (hH : mH D cI cZ ad v0 v1 v2 v3 v4 v5 v6 v7 v8 s H locs) {ls : Array Slot} (hl : lv_has ls 3 [(0, .ref (ad 0)), (1, .int x1), (2, .int x2)]) (hf : f5_release_0 x1 x2 v0 v1 v3 = some t) : W p l e rm5_release s m args below meth c H locs 0 0 (MQ below (va_Qi (fun (r9 : Int32) (_ : Unit) => r9 = t.1) (fun _ t9 => mB D cI cZ ad t.2.1 t.2.2.1 v2 t.2.2.2 v4 v5 v6 v7 v8 t9) (mA ad s.heap.size)) args s 0 0 (mA ad s.heap.size)) (F0 m 0 ls []) := by
  obtain ⟨⟨hx, hb, hml, hown, hts⟩, hr, hlk, hK⟩ := id X
  replace hf : (Option.bind (f5_isCar_0 v1 x1) (fun t1 => if t1 = 0 then (f5_release_25 x1 x2 1 v0 v1 v3) else (Option.bind (f5_isBrake_0 x2) (fun t3 => if t3 = 0 then (f5_release_25 x1 x2 2 v0 v1 v3) else (f5_release_25 x1 x2 0 v0 v1 v3))))) = some t := hf
  refine lv_aload_n hx hb dX5_release_0 rfl (lv_at hl 0 rfl) ?_
  refine lv_aload_n hx hb dX5_release_1 rfl (lv_at hl 0 rfl) ?_
  refine lv_iload_n hx hb dX5_release_2 rfl (lv_at hl 1 rfl) ?_
  obtain ⟨t1, ht1, hf⟩ := bd_o hf
  refine k5_isCar X hH.1 hl.1 qX5_64 ⟨Nat.le_of_ble_eq_true rfl, Nat.le_of_ble_eq_true rfl⟩ ht1 (Nat.le_of_ble_eq_true rfl) dX5_release_3 ⟨Nat.zero_le _, Nat.zero_le _⟩ ?_
  refine lv_if_ne (tgt := 13) hx hb dX5_release_6 (by decide) (fun c2 => ?_) (fun c2 => ?_)
  · have hf := it_f c2 hf
    refine lv_iload_n hx hb dX5_release_13 rfl (lv_at hl 2 rfl) ?_
    obtain ⟨t3, ht3, hf⟩ := bd_o hf
    refine k5_isBrake X.1 hl.1 qX5_90 ⟨Nat.le_of_ble_eq_true rfl, Nat.le_of_ble_eq_true rfl⟩ ht3 (Nat.le_of_ble_eq_true rfl) dX5_release_14 ⟨Nat.zero_le _, Nat.zero_le _⟩ ?_
    refine lv_if_eq (tgt := 24) hx hb dX5_release_17 (by decide) (fun c4 => ?_) (fun c4 => ?_)
    · have hf := it_t c4 hf
      refine lv_iconst (v := 2) hx hb dX5_release_24 (by decide) ?_
      exact w5_release_25 X hI hH (lv_sub hl [0, 1, 2] rfl) hf
    · have hf := it_f c4 hf
      refine lv_iconst (v := 0) hx hb dX5_release_20 (by decide) ?_
      refine lv_goto (tgt := 25) hx hb dX5_release_21 (by decide) ?_
      exact w5_release_25 X hI hH (lv_sub hl [0, 1, 2] rfl) hf
  · have hf := it_t c2 hf
    refine lv_iconst (v := 1) hx hb dX5_release_9 (by decide) ?_
    refine lv_goto (tgt := 25) hx hb dX5_release_10 (by decide) ?_
    exact w5_release_25 X hI hH (lv_sub hl [0, 1, 2] rfl) hf
set_option maxRecDepth 100000 in
set_option maxHeartbeats 4000000 in
theorem c5_release (l : Launch) {D : va_G} {cI cZ : ClassId} {ad : Nat → Nat} {v0 v1 v2 v3 v4 v5 v6 v7 v8 : Nat → Int32} (hI : mInj ad) (sz : Nat) (x1 : Int32) (x2 : Int32) {t : Int32 × (Nat → Int32) × (Nat → Int32) × (Nat → Int32)} (hf : f5_release_0 x1 x2 v0 v1 v3 = some t) : Met l yX5_release uX5_release rm5_release (va_Pc [.ref (ad 0), .int x1, .int x2] (fun U => U.heap.size = sz ∧ mB D cI cZ ad v0 v1 v2 v3 v4 v5 v6 v7 v8 U)) (va_Qi (fun (r9 : Int32) (_ : Unit) => r9 = t.1) (fun _ t9 => mB D cI cZ ad t.2.1 t.2.2.1 v2 t.2.2.2 v4 v5 v6 v7 v8 t9) (mA ad sz)) 0 0 (mA ad sz) := by
  refine Met.ofW (cc := cX5_release) (maxL := 3) (ret := (some .int)) (by decide) rfl ?_
  intro p e s m args below meth c s₁ B hml hv
  obtain ⟨rfl, hsz, hP, hK⟩ := hv
  subst hsz
  have X : mX D cI cZ p s m ([.ref (ad 0), .int x1, .int x2] : List Value).toArray meth c cX5_release 3 (some .int) := ⟨⟨B.exec, B.bytes, hml, findClass_of_methodNamed B.named, fun w h => atoms_spec (ws := uX5_release) B.pre w (List.mem_cons_of_mem _ h)⟩, B.returns, B.notSynchronized, hK⟩
  have hl := lv_entry ([.ref (ad 0), .int x1, .int x2]) (n := 3) (Nat.le_of_ble_eq_true rfl)
  rw [lg_entry_eq]
  generalize (lg_sl ([.ref (ad 0), .int x1, .int x2]) ++ List.replicate (3 - (lg_sl ([.ref (ad 0), .int x1, .int x2])).length) Slot.unset).toArray = ls at hl ⊢
  have hl : lv_has ls 3 [(0, .ref (ad 0)), (1, .int x1), (2, .int x2)] := hl
  exact w5_release_0 X hI ⟨hP, va_S.rf⟩ (lv_sub hl [0, 1, 2] rfl) hf
set_option maxRecDepth 100000 in
set_option maxHeartbeats 4000000 in
theorem k5_release {p : Program} {l : Launch} {e : Env} {R : Room} {s : State} {m : MethodId} {args : Array Value} {below : List Frame} {meth : Method} {c : Code} {cc : ByteArray} {nL : Nat} {ret : Option FieldType} {D : va_G} {cI cZ : ClassId} {ad : Nat → Nat} {v0 v1 v2 v3 v4 v5 v6 v7 v8 : Nat → Int32} {H : Heap} {locs : List Loc} {cells slots : Nat} {Q : State → Prop} {pc : Nat} {ls : Array Slot} {rest : List Value} (X : mX D cI cZ p s m args meth c cc nL ret) (hI : mInj ad) (hH : mH D cI cZ ad v0 v1 v2 v3 v4 v5 v6 v7 v8 s H locs) (hls : ls.size = nL) {index : Nat} (hG : GoodIn gw (wsV RX5 index RX5 yX5_release uX5_release)) (hR : rm5_release.frames + 1 ≤ R.frames ∧ 8 + (3 + 11) + rm5_release.locals ≤ R.locals) {x1 : Int32} {x2 : Int32} {t : Int32 × (Nat → Int32) × (Nat → Int32) × (Nat → Int32)} (hf : f5_release_0 x1 x2 v0 v1 v3 = some t) (hrest : (rest.map fun v => v.category).sum ≤ 8) (hdg : decode cc pc = .ok (.invokevirtual index, 3)) (hc : cells ≤ R.cells ∧ slots ≤ R.slots) (kk : ∀ (H1 : Heap) (locs1 : List Loc), mH D cI cZ ad t.2.1 t.2.2.1 v2 t.2.2.2 v4 v5 v6 v7 v8 s H1 locs1 → W p l e R s m args below meth c H1 locs1 cells slots Q (F0 m (pc + 3) ls (.int t.1 :: rest))) : W p l e R s m args below meth c H locs cells slots Q (F0 m pc ls (.int x2 :: .int x1 :: .ref (ad 0) :: rest)) := by
  have hA : ∀ q, mA ad H.size q → mA ad s.heap.size q := fun q h => h.elim Or.inl (fun h => Or.inr (Nat.le_trans hH.2.1 h))
  refine va_calli (va_runV (As := [.int x1, .int x2]) (rest := rest) X.1 (c5_release l hI H.size x1 x2 hf) (cwV 2 X.1.2.2.2.2 hG rfl rfl rfl (by decide +kernel) hR) ⟨mBs_bl, va_recv X.2.2.2 hH.1 (ci := 5) (q0 := 0) rfl rfl, fun U hU hW => ⟨rfl, by rw [hU], by rw [hU]; exact hH.1, va_K.moved hW.alike X.2.2.2⟩⟩ rfl rfl hls rfl (lv_room hrest) hdg hc) hH.2 (fun q _ h => hA q h) hA (fun r9 u t9 H1 locs1 ht hvm hw hB hz1 hk1 hS => ?_)
  subst hw
  exact kk H1 locs1 ⟨by rw [← ht]; exact hB.1, hS⟩
/-! OreRailwayModel.barBrake(II)I -/
def rm5_barBrake : Room := { frames := 2, cells := 0, slots := 0, locals := 43 }
def f5_barBrake_37 (v1 : Nat → Int32) (y0 : Int32) : Option (Int32) := some y0
set_option maxRecDepth 100000 in
set_option maxHeartbeats 4000000 in
theorem w5_barBrake_37 {p : Program} {l : Launch} {e : Env} {s : State} {m : MethodId} {args : Array Value} {below : List Frame} {meth : Method} {c : Code} {D : va_G} {cI cZ : ClassId} {ad : Nat → Nat} {v0 v1 v2 v3 v4 v5 v6 v7 v8 : Nat → Int32} (X : mX D cI cZ p s m args meth c cX5_barBrake 3 (some .int)) (hP : va_P D vwCl (mwW cI cZ ad v0 v1 v2 v3 v4 v5 v6 v7 v8) s.heap) {y0 : Int32} {t : Int32}  {ls : Array Slot} (hl : lv_has ls 3 []) (hf : f5_barBrake_37 v1 y0 = some t) : W p l e rm5_barBrake s m args below meth c s.heap [] 0 0 (MQ below (QcRead t) args s 0 0 (fun _ => False)) (F0 m 37 ls [.int y0]) := by
  obtain ⟨⟨hx, hb, hml, hown, hts⟩, hr, hlk, hK⟩ := id X
  replace hf : (some y0) = some t := hf
  obtain rfl := so_i hf
  exact rd_i hx hb hr hlk dX5_barBrake_37
def f5_barBrake_0 (v1 : Nat → Int32) (x1 : Int32) (x2 : Int32) : Option (Int32) := Option.bind (f5_isCar_0 v1 x1) (fun t1 => if t1 = 0 then (f5_barBrake_37 v1 1) else (Option.bind (f5_isBrake_0 x2) (fun t3 => if t3 = 0 then (f5_barBrake_37 v1 2) else (Option.bind (f5_isIn_0 v1 x1 1) (fun t5 => if t5 = 0 then (f5_barBrake_37 v1 3) else (f5_barBrake_37 v1 0))))))
set_option maxRecDepth 100000 in
set_option maxHeartbeats 4000000 in
theorem w5_barBrake_0 {p : Program} {l : Launch} {e : Env} {s : State} {m : MethodId} {args : Array Value} {below : List Frame} {meth : Method} {c : Code} {D : va_G} {cI cZ : ClassId} {ad : Nat → Nat} {v0 v1 v2 v3 v4 v5 v6 v7 v8 : Nat → Int32} (X : mX D cI cZ p s m args meth c cX5_barBrake 3 (some .int)) (hP : va_P D vwCl (mwW cI cZ ad v0 v1 v2 v3 v4 v5 v6 v7 v8) s.heap) {x1 : Int32} {x2 : Int32} {t : Int32}  {ls : Array Slot} (hl : lv_has ls 3 [(0, .ref (ad 0)), (1, .int x1), (2, .int x2)]) (hf : f5_barBrake_0 v1 x1 x2 = some t) : W p l e rm5_barBrake s m args below meth c s.heap [] 0 0 (MQ below (QcRead t) args s 0 0 (fun _ => False)) (F0 m 0 ls []) := by
  obtain ⟨⟨hx, hb, hml, hown, hts⟩, hr, hlk, hK⟩ := id X
  replace hf : (Option.bind (f5_isCar_0 v1 x1) (fun t1 => if t1 = 0 then (f5_barBrake_37 v1 1) else (Option.bind (f5_isBrake_0 x2) (fun t3 => if t3 = 0 then (f5_barBrake_37 v1 2) else (Option.bind (f5_isIn_0 v1 x1 1) (fun t5 => if t5 = 0 then (f5_barBrake_37 v1 3) else (f5_barBrake_37 v1 0))))))) = some t := hf
  refine lv_aload_n hx hb dX5_barBrake_0 rfl (lv_at hl 0 rfl) ?_
  refine lv_iload_n hx hb dX5_barBrake_1 rfl (lv_at hl 1 rfl) ?_
  obtain ⟨t1, ht1, hf⟩ := bd_o hf
  refine k5_isCar X hP hl.1 qX5_64 ⟨Nat.le_of_ble_eq_true rfl, Nat.le_of_ble_eq_true rfl⟩ ht1 (Nat.le_of_ble_eq_true rfl) dX5_barBrake_2 ⟨Nat.zero_le _, Nat.zero_le _⟩ ?_
  refine lv_if_ne (tgt := 12) hx hb dX5_barBrake_5 (by decide) (fun c2 => ?_) (fun c2 => ?_)
  · have hf := it_f c2 hf
    refine lv_iload_n hx hb dX5_barBrake_12 rfl (lv_at hl 2 rfl) ?_
    obtain ⟨t3, ht3, hf⟩ := bd_o hf
    refine k5_isBrake X.1 hl.1 qX5_90 ⟨Nat.le_of_ble_eq_true rfl, Nat.le_of_ble_eq_true rfl⟩ ht3 (Nat.le_of_ble_eq_true rfl) dX5_barBrake_13 ⟨Nat.zero_le _, Nat.zero_le _⟩ ?_
    refine lv_if_ne (tgt := 23) hx hb dX5_barBrake_16 (by decide) (fun c4 => ?_) (fun c4 => ?_)
    · have hf := it_f c4 hf
      refine lv_aload_n hx hb dX5_barBrake_23 rfl (lv_at hl 0 rfl) ?_
      refine lv_iload_n hx hb dX5_barBrake_24 rfl (lv_at hl 1 rfl) ?_
      refine lv_iconst (v := 1) hx hb dX5_barBrake_25 (by decide) ?_
      obtain ⟨t5, ht5, hf⟩ := bd_o hf
      refine k5_isIn X hP hl.1 qX5_67 ⟨Nat.le_of_ble_eq_true rfl, Nat.le_of_ble_eq_true rfl⟩ ht5 (Nat.le_of_ble_eq_true rfl) dX5_barBrake_26 ⟨Nat.zero_le _, Nat.zero_le _⟩ ?_
      refine lv_if_eq (tgt := 36) hx hb dX5_barBrake_29 (by decide) (fun c6 => ?_) (fun c6 => ?_)
      · have hf := it_t c6 hf
        refine lv_iconst (v := 3) hx hb dX5_barBrake_36 (by decide) ?_
        exact w5_barBrake_37 X hP  (lv_sub hl [] rfl) hf
      · have hf := it_f c6 hf
        refine lv_iconst (v := 0) hx hb dX5_barBrake_32 (by decide) ?_
        refine lv_goto (tgt := 37) hx hb dX5_barBrake_33 (by decide) ?_
        exact w5_barBrake_37 X hP  (lv_sub hl [] rfl) hf
    · have hf := it_t c4 hf
      refine lv_iconst (v := 2) hx hb dX5_barBrake_19 (by decide) ?_
      refine lv_goto (tgt := 37) hx hb dX5_barBrake_20 (by decide) ?_
      exact w5_barBrake_37 X hP  (lv_sub hl [] rfl) hf
  · have hf := it_t c2 hf
    refine lv_iconst (v := 1) hx hb dX5_barBrake_8 (by decide) ?_
    refine lv_goto (tgt := 37) hx hb dX5_barBrake_9 (by decide) ?_
    exact w5_barBrake_37 X hP  (lv_sub hl [] rfl) hf
set_option maxRecDepth 100000 in
set_option maxHeartbeats 4000000 in
theorem c5_barBrake (l : Launch) {D : va_G} {cI cZ : ClassId} {ad : Nat → Nat} {v0 v1 v2 v3 v4 v5 v6 v7 v8 : Nat → Int32} (x1 : Int32) (x2 : Int32) {t : Int32} (hf : f5_barBrake_0 v1 x1 x2 = some t) : Met l yX5_barBrake uX5_barBrake rm5_barBrake (va_Pc [.ref (ad 0), .int x1, .int x2] (mB D cI cZ ad v0 v1 v2 v3 v4 v5 v6 v7 v8)) (QcRead t) 0 0 (fun _ => False) := by
  refine Met.ofW (cc := cX5_barBrake) (maxL := 3) (ret := (some .int)) (by decide) rfl ?_
  intro p e s m args below meth c s₁ B hml hv
  obtain ⟨rfl, hP, hK⟩ := hv
  have X : mX D cI cZ p s m ([.ref (ad 0), .int x1, .int x2] : List Value).toArray meth c cX5_barBrake 3 (some .int) := ⟨⟨B.exec, B.bytes, hml, findClass_of_methodNamed B.named, fun w h => atoms_spec (ws := uX5_barBrake) B.pre w (List.mem_cons_of_mem _ h)⟩, B.returns, B.notSynchronized, hK⟩
  have hl := lv_entry ([.ref (ad 0), .int x1, .int x2]) (n := 3) (Nat.le_of_ble_eq_true rfl)
  rw [lg_entry_eq]
  generalize (lg_sl ([.ref (ad 0), .int x1, .int x2]) ++ List.replicate (3 - (lg_sl ([.ref (ad 0), .int x1, .int x2])).length) Slot.unset).toArray = ls at hl ⊢
  have hl : lv_has ls 3 [(0, .ref (ad 0)), (1, .int x1), (2, .int x2)] := hl
  exact w5_barBrake_0 X hP (lv_sub hl [0, 1, 2] rfl) hf
set_option maxRecDepth 100000 in
set_option maxHeartbeats 4000000 in
theorem k5_barBrake {p : Program} {l : Launch} {e : Env} {R : Room} {s : State} {m : MethodId} {args : Array Value} {below : List Frame} {meth : Method} {c : Code} {cc : ByteArray} {nL : Nat} {ret : Option FieldType} {D : va_G} {cI cZ : ClassId} {ad : Nat → Nat} {v0 v1 v2 v3 v4 v5 v6 v7 v8 : Nat → Int32} {H : Heap} {locs : List Loc} {cells slots : Nat} {Q : State → Prop} {pc : Nat} {ls : Array Slot} {rest : List Value} (X : mX D cI cZ p s m args meth c cc nL ret) (hP : va_P D vwCl (mwW cI cZ ad v0 v1 v2 v3 v4 v5 v6 v7 v8) H) (hls : ls.size = nL) {index : Nat} (hG : GoodIn gw (wsV RX5 index RX5 yX5_barBrake uX5_barBrake)) (hR : rm5_barBrake.frames + 1 ≤ R.frames ∧ 8 + (3 + 11) + rm5_barBrake.locals ≤ R.locals) {x1 : Int32} {x2 : Int32} {t : Int32} (hf : f5_barBrake_0 v1 x1 x2 = some t) (hrest : (rest.map fun v => v.category).sum ≤ 8) (hdg : decode cc pc = .ok (.invokevirtual index, 3)) (hc : cells ≤ R.cells ∧ slots ≤ R.slots) (kk : W p l e R s m args below meth c H locs cells slots Q (F0 m (pc + 3) ls (.int t :: rest))) : W p l e R s m args below meth c H locs cells slots Q (F0 m pc ls (.int x2 :: .int x1 :: .ref (ad 0) :: rest)) :=
  W.callR (W.runV (As := [.int x1, .int x2]) X.1 (c5_barBrake l x1 x2 hf) (cwV 2 X.1.2.2.2.2 hG rfl rfl rfl (by decide +kernel) hR) ⟨mB_bl, va_recv X.2.2.2 hP (ci := 5) (q0 := 0) rfl rfl, fun U hU hW => ⟨rfl, by rw [hU]; exact hP, va_K.moved hW.alike X.2.2.2⟩⟩ rfl rfl hls rfl (lv_room hrest) hdg hc) kk
/-! OreRailwayModel.brakes(II)I -/
def rm5_brakes : Room := { frames := 1, cells := 0, slots := 0, locals := 21 }
def f5_brakes_0 (x1 : Int32) (x2 : Int32) (v1 : Nat → Int32) : Option (Int32 × (Nat → Int32)) := gd (e5_of x1 2) 171 (gd (e5_of x1 2) 171 (some (v1 (Int32.toNatClampNeg (e5_of x1 2)), upd v1 (Int32.toNatClampNeg (e5_of x1 2)) x2)))
set_option maxRecDepth 100000 in
set_option maxHeartbeats 4000000 in
theorem w5_brakes_0 {p : Program} {l : Launch} {e : Env} {s : State} {m : MethodId} {args : Array Value} {below : List Frame} {meth : Method} {c : Code} {D : va_G} {cI cZ : ClassId} {ad : Nat → Nat} {v0 v1 v2 v3 v4 v5 v6 v7 v8 : Nat → Int32} (X : mX D cI cZ p s m args meth c cX5_brakes 4 (some .int)) (hI : mInj ad) {x1 : Int32} {x2 : Int32} {t : Int32 × (Nat → Int32)}  {H : Heap} {locs : List Loc} (hH : mH D cI cZ ad v0 v1 v2 v3 v4 v5 v6 v7 v8 s H locs) {ls : Array Slot} (hl : lv_has ls 4 [(0, .ref (ad 0)), (1, .int x1), (2, .int x2)]) (hf : f5_brakes_0 x1 x2 v1 = some t) : W p l e rm5_brakes s m args below meth c H locs 0 0 (MQ below (va_Qi (fun (r9 : Int32) (_ : Unit) => r9 = t.1) (fun _ t9 => mB D cI cZ ad v0 t.2 v2 v3 v4 v5 v6 v7 v8 t9) (mA ad s.heap.size)) args s 0 0 (mA ad s.heap.size)) (F0 m 0 ls []) := by
  obtain ⟨⟨hx, hb, hml, hown, hts⟩, hr, hlk, hK⟩ := id X
  replace hf : (gd (e5_of x1 2) 171 (gd (e5_of x1 2) 171 (some (v1 (Int32.toNatClampNeg (e5_of x1 2)), upd v1 (Int32.toNatClampNeg (e5_of x1 2)) x2)))) = some t := hf
  refine lv_aload_n hx hb dX5_brakes_0 rfl (lv_at hl 0 rfl) ?_
  refine mr_get X hH.1 (k := 0) (v := .ref (ad 1)) (by decide) gfX5_7 rfl dX5_brakes_1 ?_
  refine lv_iload_n hx hb dX5_brakes_4 rfl (lv_at hl 1 rfl) ?_
  refine lv_iconst (v := 2) hx hb dX5_brakes_5 (by decide) ?_
  refine k5_of X.1 hl.1 qX5_43 ⟨Nat.le_of_ble_eq_true rfl, Nat.le_of_ble_eq_true rfl⟩ (Nat.le_of_ble_eq_true rfl) dX5_brakes_6 ⟨Nat.zero_le _, Nat.zero_le _⟩ ?_
  obtain ⟨hi1, hf⟩ := gd_o hf
  refine mr_ld1 X hH.1 hi1 dX5_brakes_9 ?_
  refine lv_istore_n (lv' := [(3, .int (v1 (Int32.toNatClampNeg (e5_of x1 2)))), (0, .ref (ad 0)), (1, .int x1), (2, .int x2)]) hx hb dX5_brakes_10 rfl hl (by decide) rfl (fun ls hl => ?_)
  refine lv_aload_n hx hb dX5_brakes_11 rfl (lv_at hl 1 rfl) ?_
  refine mr_get X hH.1 (k := 0) (v := .ref (ad 1)) (by decide) gfX5_7 rfl dX5_brakes_12 ?_
  refine lv_iload_n hx hb dX5_brakes_15 rfl (lv_at hl 2 rfl) ?_
  refine lv_iconst (v := 2) hx hb dX5_brakes_16 (by decide) ?_
  refine k5_of X.1 hl.1 qX5_43 ⟨Nat.le_of_ble_eq_true rfl, Nat.le_of_ble_eq_true rfl⟩ (Nat.le_of_ble_eq_true rfl) dX5_brakes_17 ⟨Nat.zero_le _, Nat.zero_le _⟩ ?_
  refine lv_iload_n hx hb dX5_brakes_20 rfl (lv_at hl 3 rfl) ?_
  obtain ⟨hi2, hf⟩ := gd_o hf
  refine mr_st1 X hI hH hi2 dX5_brakes_21 (fun H locs hH => ?_)
  refine lv_iload_n hx hb dX5_brakes_22 rfl (lv_at hl 0 rfl) ?_
  obtain rfl := so_i hf
  exact mr_iw X hH rfl dX5_brakes_23
set_option maxRecDepth 100000 in
set_option maxHeartbeats 4000000 in
theorem c5_brakes (l : Launch) {D : va_G} {cI cZ : ClassId} {ad : Nat → Nat} {v0 v1 v2 v3 v4 v5 v6 v7 v8 : Nat → Int32} (hI : mInj ad) (sz : Nat) (x1 : Int32) (x2 : Int32) {t : Int32 × (Nat → Int32)} (hf : f5_brakes_0 x1 x2 v1 = some t) : Met l yX5_brakes uX5_brakes rm5_brakes (va_Pc [.ref (ad 0), .int x1, .int x2] (fun U => U.heap.size = sz ∧ mB D cI cZ ad v0 v1 v2 v3 v4 v5 v6 v7 v8 U)) (va_Qi (fun (r9 : Int32) (_ : Unit) => r9 = t.1) (fun _ t9 => mB D cI cZ ad v0 t.2 v2 v3 v4 v5 v6 v7 v8 t9) (mA ad sz)) 0 0 (mA ad sz) := by
  refine Met.ofW (cc := cX5_brakes) (maxL := 4) (ret := (some .int)) (by decide) rfl ?_
  intro p e s m args below meth c s₁ B hml hv
  obtain ⟨rfl, hsz, hP, hK⟩ := hv
  subst hsz
  have X : mX D cI cZ p s m ([.ref (ad 0), .int x1, .int x2] : List Value).toArray meth c cX5_brakes 4 (some .int) := ⟨⟨B.exec, B.bytes, hml, findClass_of_methodNamed B.named, fun w h => atoms_spec (ws := uX5_brakes) B.pre w (List.mem_cons_of_mem _ h)⟩, B.returns, B.notSynchronized, hK⟩
  have hl := lv_entry ([.ref (ad 0), .int x1, .int x2]) (n := 4) (Nat.le_of_ble_eq_true rfl)
  rw [lg_entry_eq]
  generalize (lg_sl ([.ref (ad 0), .int x1, .int x2]) ++ List.replicate (4 - (lg_sl ([.ref (ad 0), .int x1, .int x2])).length) Slot.unset).toArray = ls at hl ⊢
  have hl : lv_has ls 4 [(0, .ref (ad 0)), (1, .int x1), (2, .int x2)] := hl
  exact w5_brakes_0 X hI ⟨hP, va_S.rf⟩ (lv_sub hl [0, 1, 2] rfl) hf
set_option maxRecDepth 100000 in
set_option maxHeartbeats 4000000 in
theorem k5_brakes {p : Program} {l : Launch} {e : Env} {R : Room} {s : State} {m : MethodId} {args : Array Value} {below : List Frame} {meth : Method} {c : Code} {cc : ByteArray} {nL : Nat} {ret : Option FieldType} {D : va_G} {cI cZ : ClassId} {ad : Nat → Nat} {v0 v1 v2 v3 v4 v5 v6 v7 v8 : Nat → Int32} {H : Heap} {locs : List Loc} {cells slots : Nat} {Q : State → Prop} {pc : Nat} {ls : Array Slot} {rest : List Value} (X : mX D cI cZ p s m args meth c cc nL ret) (hI : mInj ad) (hH : mH D cI cZ ad v0 v1 v2 v3 v4 v5 v6 v7 v8 s H locs) (hls : ls.size = nL) {index : Nat} (hG : GoodIn gw (wsV RX5 index RX5 yX5_brakes uX5_brakes)) (hR : rm5_brakes.frames + 1 ≤ R.frames ∧ 8 + (4 + 11) + rm5_brakes.locals ≤ R.locals) {x1 : Int32} {x2 : Int32} {t : Int32 × (Nat → Int32)} (hf : f5_brakes_0 x1 x2 v1 = some t) (hrest : (rest.map fun v => v.category).sum ≤ 8) (hdg : decode cc pc = .ok (.invokevirtual index, 3)) (hc : cells ≤ R.cells ∧ slots ≤ R.slots) (kk : ∀ (H1 : Heap) (locs1 : List Loc), mH D cI cZ ad v0 t.2 v2 v3 v4 v5 v6 v7 v8 s H1 locs1 → W p l e R s m args below meth c H1 locs1 cells slots Q (F0 m (pc + 3) ls (.int t.1 :: rest))) : W p l e R s m args below meth c H locs cells slots Q (F0 m pc ls (.int x2 :: .int x1 :: .ref (ad 0) :: rest)) := by
  have hA : ∀ q, mA ad H.size q → mA ad s.heap.size q := fun q h => h.elim Or.inl (fun h => Or.inr (Nat.le_trans hH.2.1 h))
  refine va_calli (va_runV (As := [.int x1, .int x2]) (rest := rest) X.1 (c5_brakes l hI H.size x1 x2 hf) (cwV 2 X.1.2.2.2.2 hG rfl rfl rfl (by decide +kernel) hR) ⟨mBs_bl, va_recv X.2.2.2 hH.1 (ci := 5) (q0 := 0) rfl rfl, fun U hU hW => ⟨rfl, by rw [hU], by rw [hU]; exact hH.1, va_K.moved hW.alike X.2.2.2⟩⟩ rfl rfl hls rfl (lv_room hrest) hdg hc) hH.2 (fun q _ h => hA q h) hA (fun r9 u t9 H1 locs1 ht hvm hw hB hz1 hk1 hS => ?_)
  subst hw
  exact kk H1 locs1 ⟨by rw [← ht]; exact hB.1, hS⟩
/-! OreRailwayModel.brake(II)I -/
def rm5_brake : Room := { frames := 3, cells := 0, slots := 0, locals := 65 }
def f5_brake_0 (x1 : Int32) (x2 : Int32) (v0 : Nat → Int32) (v1 : Nat → Int32) (v3 : Nat → Int32) : Option (Int32 × (Nat → Int32) × (Nat → Int32) × (Nat → Int32)) := Option.bind (f5_barBrake_0 v1 x1 x2) (fun t1 => Option.bind (f5_refused_0 t1 v0) (fun t2 => if t2.1 = 0 then (Option.bind (f5_saves_0 v1 t2.2 v3) (fun t4 => Option.bind (f5_brakes_0 x1 x2 v1) (fun t5 => some (t5.1, t4.1, t5.2, t4.2)))) else (some (0, t2.2, v1, v3))))
set_option maxRecDepth 100000 in
set_option maxHeartbeats 4000000 in
theorem w5_brake_0 {p : Program} {l : Launch} {e : Env} {s : State} {m : MethodId} {args : Array Value} {below : List Frame} {meth : Method} {c : Code} {D : va_G} {cI cZ : ClassId} {ad : Nat → Nat} {v0 v1 v2 v3 v4 v5 v6 v7 v8 : Nat → Int32} (X : mX D cI cZ p s m args meth c cX5_brake 3 (some .int)) (hI : mInj ad) {x1 : Int32} {x2 : Int32} {t : Int32 × (Nat → Int32) × (Nat → Int32) × (Nat → Int32)}  {H : Heap} {locs : List Loc} (hH : mH D cI cZ ad v0 v1 v2 v3 v4 v5 v6 v7 v8 s H locs) {ls : Array Slot} (hl : lv_has ls 3 [(0, .ref (ad 0)), (1, .int x1), (2, .int x2)]) (hf : f5_brake_0 x1 x2 v0 v1 v3 = some t) : W p l e rm5_brake s m args below meth c H locs 0 0 (MQ below (va_Qi (fun (r9 : Int32) (_ : Unit) => r9 = t.1) (fun _ t9 => mB D cI cZ ad t.2.1 t.2.2.1 v2 t.2.2.2 v4 v5 v6 v7 v8 t9) (mA ad s.heap.size)) args s 0 0 (mA ad s.heap.size)) (F0 m 0 ls []) := by
  obtain ⟨⟨hx, hb, hml, hown, hts⟩, hr, hlk, hK⟩ := id X
  replace hf : (Option.bind (f5_barBrake_0 v1 x1 x2) (fun t1 => Option.bind (f5_refused_0 t1 v0) (fun t2 => if t2.1 = 0 then (Option.bind (f5_saves_0 v1 t2.2 v3) (fun t4 => Option.bind (f5_brakes_0 x1 x2 v1) (fun t5 => some (t5.1, t4.1, t5.2, t4.2)))) else (some (0, t2.2, v1, v3))))) = some t := hf
  refine lv_aload_n hx hb dX5_brake_0 rfl (lv_at hl 0 rfl) ?_
  refine lv_aload_n hx hb dX5_brake_1 rfl (lv_at hl 0 rfl) ?_
  refine lv_iload_n hx hb dX5_brake_2 rfl (lv_at hl 1 rfl) ?_
  refine lv_iload_n hx hb dX5_brake_3 rfl (lv_at hl 2 rfl) ?_
  obtain ⟨t1, ht1, hf⟩ := bd_o hf
  refine k5_barBrake X hH.1 hl.1 qX5_96 ⟨Nat.le_of_ble_eq_true rfl, Nat.le_of_ble_eq_true rfl⟩ ht1 (Nat.le_of_ble_eq_true rfl) dX5_brake_4 ⟨Nat.zero_le _, Nat.zero_le _⟩ ?_
  obtain ⟨t2, ht2, hf⟩ := bd_o hf
  refine k5_refused X hI hH hl.1 qX5_50 ⟨Nat.le_of_ble_eq_true rfl, Nat.le_of_ble_eq_true rfl⟩ ht2 (Nat.le_of_ble_eq_true rfl) dX5_brake_7 ⟨Nat.zero_le _, Nat.zero_le _⟩ (fun H locs hH => ?_)
  refine lv_if_eq (tgt := 15) hx hb dX5_brake_10 (by decide) (fun c3 => ?_) (fun c3 => ?_)
  · have hf := it_t c3 hf
    refine lv_aload_n hx hb dX5_brake_15 rfl (lv_at hl 0 rfl) ?_
    obtain ⟨t4, ht4, hf⟩ := bd_o hf
    refine k5_saves X hI hH hl.1 qX5_54 ⟨Nat.le_of_ble_eq_true rfl, Nat.le_of_ble_eq_true rfl⟩ ht4 (Nat.le_of_ble_eq_true rfl) dX5_brake_16 ⟨Nat.zero_le _, Nat.zero_le _⟩ (fun H locs hH => ?_)
    refine lv_aload_n hx hb dX5_brake_19 rfl (lv_at hl 0 rfl) ?_
    refine lv_iload_n hx hb dX5_brake_20 rfl (lv_at hl 1 rfl) ?_
    refine lv_iload_n hx hb dX5_brake_21 rfl (lv_at hl 2 rfl) ?_
    obtain ⟨t5, ht5, hf⟩ := bd_o hf
    refine k5_brakes X hI hH hl.1 qX5_99 ⟨Nat.le_of_ble_eq_true rfl, Nat.le_of_ble_eq_true rfl⟩ ht5 (Nat.le_of_ble_eq_true rfl) dX5_brake_22 ⟨Nat.zero_le _, Nat.zero_le _⟩ (fun H locs hH => ?_)
    obtain rfl := so_i hf
    exact mr_iw X hH rfl dX5_brake_25
  · have hf := it_f c3 hf
    refine lv_iconst (v := 0) hx hb dX5_brake_13 (by decide) ?_
    obtain rfl := so_i hf
    exact mr_iw X hH rfl dX5_brake_14
set_option maxRecDepth 100000 in
set_option maxHeartbeats 4000000 in
theorem c5_brake (l : Launch) {D : va_G} {cI cZ : ClassId} {ad : Nat → Nat} {v0 v1 v2 v3 v4 v5 v6 v7 v8 : Nat → Int32} (hI : mInj ad) (sz : Nat) (x1 : Int32) (x2 : Int32) {t : Int32 × (Nat → Int32) × (Nat → Int32) × (Nat → Int32)} (hf : f5_brake_0 x1 x2 v0 v1 v3 = some t) : Met l yX5_brake uX5_brake rm5_brake (va_Pc [.ref (ad 0), .int x1, .int x2] (fun U => U.heap.size = sz ∧ mB D cI cZ ad v0 v1 v2 v3 v4 v5 v6 v7 v8 U)) (va_Qi (fun (r9 : Int32) (_ : Unit) => r9 = t.1) (fun _ t9 => mB D cI cZ ad t.2.1 t.2.2.1 v2 t.2.2.2 v4 v5 v6 v7 v8 t9) (mA ad sz)) 0 0 (mA ad sz) := by
  refine Met.ofW (cc := cX5_brake) (maxL := 3) (ret := (some .int)) (by decide) rfl ?_
  intro p e s m args below meth c s₁ B hml hv
  obtain ⟨rfl, hsz, hP, hK⟩ := hv
  subst hsz
  have X : mX D cI cZ p s m ([.ref (ad 0), .int x1, .int x2] : List Value).toArray meth c cX5_brake 3 (some .int) := ⟨⟨B.exec, B.bytes, hml, findClass_of_methodNamed B.named, fun w h => atoms_spec (ws := uX5_brake) B.pre w (List.mem_cons_of_mem _ h)⟩, B.returns, B.notSynchronized, hK⟩
  have hl := lv_entry ([.ref (ad 0), .int x1, .int x2]) (n := 3) (Nat.le_of_ble_eq_true rfl)
  rw [lg_entry_eq]
  generalize (lg_sl ([.ref (ad 0), .int x1, .int x2]) ++ List.replicate (3 - (lg_sl ([.ref (ad 0), .int x1, .int x2])).length) Slot.unset).toArray = ls at hl ⊢
  have hl : lv_has ls 3 [(0, .ref (ad 0)), (1, .int x1), (2, .int x2)] := hl
  exact w5_brake_0 X hI ⟨hP, va_S.rf⟩ (lv_sub hl [0, 1, 2] rfl) hf
set_option maxRecDepth 100000 in
set_option maxHeartbeats 4000000 in
theorem k5_brake {p : Program} {l : Launch} {e : Env} {R : Room} {s : State} {m : MethodId} {args : Array Value} {below : List Frame} {meth : Method} {c : Code} {cc : ByteArray} {nL : Nat} {ret : Option FieldType} {D : va_G} {cI cZ : ClassId} {ad : Nat → Nat} {v0 v1 v2 v3 v4 v5 v6 v7 v8 : Nat → Int32} {H : Heap} {locs : List Loc} {cells slots : Nat} {Q : State → Prop} {pc : Nat} {ls : Array Slot} {rest : List Value} (X : mX D cI cZ p s m args meth c cc nL ret) (hI : mInj ad) (hH : mH D cI cZ ad v0 v1 v2 v3 v4 v5 v6 v7 v8 s H locs) (hls : ls.size = nL) {index : Nat} (hG : GoodIn gw (wsV RX5 index RX5 yX5_brake uX5_brake)) (hR : rm5_brake.frames + 1 ≤ R.frames ∧ 8 + (3 + 11) + rm5_brake.locals ≤ R.locals) {x1 : Int32} {x2 : Int32} {t : Int32 × (Nat → Int32) × (Nat → Int32) × (Nat → Int32)} (hf : f5_brake_0 x1 x2 v0 v1 v3 = some t) (hrest : (rest.map fun v => v.category).sum ≤ 8) (hdg : decode cc pc = .ok (.invokevirtual index, 3)) (hc : cells ≤ R.cells ∧ slots ≤ R.slots) (kk : ∀ (H1 : Heap) (locs1 : List Loc), mH D cI cZ ad t.2.1 t.2.2.1 v2 t.2.2.2 v4 v5 v6 v7 v8 s H1 locs1 → W p l e R s m args below meth c H1 locs1 cells slots Q (F0 m (pc + 3) ls (.int t.1 :: rest))) : W p l e R s m args below meth c H locs cells slots Q (F0 m pc ls (.int x2 :: .int x1 :: .ref (ad 0) :: rest)) := by
  have hA : ∀ q, mA ad H.size q → mA ad s.heap.size q := fun q h => h.elim Or.inl (fun h => Or.inr (Nat.le_trans hH.2.1 h))
  refine va_calli (va_runV (As := [.int x1, .int x2]) (rest := rest) X.1 (c5_brake l hI H.size x1 x2 hf) (cwV 2 X.1.2.2.2.2 hG rfl rfl rfl (by decide +kernel) hR) ⟨mBs_bl, va_recv X.2.2.2 hH.1 (ci := 5) (q0 := 0) rfl rfl, fun U hU hW => ⟨rfl, by rw [hU], by rw [hU]; exact hH.1, va_K.moved hW.alike X.2.2.2⟩⟩ rfl rfl hls rfl (lv_room hrest) hdg hc) hH.2 (fun q _ h => hA q h) hA (fun r9 u t9 H1 locs1 ht hvm hw hB hz1 hk1 hS => ?_)
  subst hw
  exact kk H1 locs1 ⟨by rw [← ht]; exact hB.1, hS⟩
/-! OreRailwayModel.pull(I)I -/
def rm5_pull : Room := { frames := 6, cells := 0, slots := 0, locals := 129 }
def f5_pull_14 (x1 : Int32) (y0 : Int32) (v0 : Nat → Int32) (v1 : Nat → Int32) (v3 : Nat → Int32) : Option (Int32 × (Nat → Int32) × (Nat → Int32) × (Nat → Int32)) := Option.bind (f5_refused_0 y0 v0) (fun t1 => if t1.1 = 0 then (Option.bind (f5_saves_0 v1 t1.2 v3) (fun t3 => Option.bind (f5_pulls_0 x1 v1) (fun t4 => some (t4.1, t3.1, t4.2, t3.2)))) else (some (0, t1.2, v1, v3)))
set_option maxRecDepth 100000 in
set_option maxHeartbeats 4000000 in
theorem w5_pull_14 {p : Program} {l : Launch} {e : Env} {s : State} {m : MethodId} {args : Array Value} {below : List Frame} {meth : Method} {c : Code} {D : va_G} {cI cZ : ClassId} {ad : Nat → Nat} {v0 v1 v2 v3 v4 v5 v6 v7 v8 : Nat → Int32} (X : mX D cI cZ p s m args meth c cX5_pull 2 (some .int)) (hI : mInj ad) {x1 : Int32} {y0 : Int32} {t : Int32 × (Nat → Int32) × (Nat → Int32) × (Nat → Int32)}  {H : Heap} {locs : List Loc} (hH : mH D cI cZ ad v0 v1 v2 v3 v4 v5 v6 v7 v8 s H locs) {ls : Array Slot} (hl : lv_has ls 2 [(0, .ref (ad 0)), (1, .int x1)]) (hf : f5_pull_14 x1 y0 v0 v1 v3 = some t) : W p l e rm5_pull s m args below meth c H locs 0 0 (MQ below (va_Qi (fun (r9 : Int32) (_ : Unit) => r9 = t.1) (fun _ t9 => mB D cI cZ ad t.2.1 t.2.2.1 v2 t.2.2.2 v4 v5 v6 v7 v8 t9) (mA ad s.heap.size)) args s 0 0 (mA ad s.heap.size)) (F0 m 14 ls [.int y0, .ref (ad 0)]) := by
  obtain ⟨⟨hx, hb, hml, hown, hts⟩, hr, hlk, hK⟩ := id X
  replace hf : (Option.bind (f5_refused_0 y0 v0) (fun t1 => if t1.1 = 0 then (Option.bind (f5_saves_0 v1 t1.2 v3) (fun t3 => Option.bind (f5_pulls_0 x1 v1) (fun t4 => some (t4.1, t3.1, t4.2, t3.2)))) else (some (0, t1.2, v1, v3)))) = some t := hf
  obtain ⟨t1, ht1, hf⟩ := bd_o hf
  refine k5_refused X hI hH hl.1 qX5_50 ⟨Nat.le_of_ble_eq_true rfl, Nat.le_of_ble_eq_true rfl⟩ ht1 (Nat.le_of_ble_eq_true rfl) dX5_pull_14 ⟨Nat.zero_le _, Nat.zero_le _⟩ (fun H locs hH => ?_)
  refine lv_if_eq (tgt := 22) hx hb dX5_pull_17 (by decide) (fun c2 => ?_) (fun c2 => ?_)
  · have hf := it_t c2 hf
    refine lv_aload_n hx hb dX5_pull_22 rfl (lv_at hl 0 rfl) ?_
    obtain ⟨t3, ht3, hf⟩ := bd_o hf
    refine k5_saves X hI hH hl.1 qX5_54 ⟨Nat.le_of_ble_eq_true rfl, Nat.le_of_ble_eq_true rfl⟩ ht3 (Nat.le_of_ble_eq_true rfl) dX5_pull_23 ⟨Nat.zero_le _, Nat.zero_le _⟩ (fun H locs hH => ?_)
    refine lv_aload_n hx hb dX5_pull_26 rfl (lv_at hl 0 rfl) ?_
    refine lv_iload_n hx hb dX5_pull_27 rfl (lv_at hl 1 rfl) ?_
    obtain ⟨t4, ht4, hf⟩ := bd_o hf
    refine k5_pulls X hI hH hl.1 qX5_102 ⟨Nat.le_of_ble_eq_true rfl, Nat.le_of_ble_eq_true rfl⟩ ht4 (Nat.le_of_ble_eq_true rfl) dX5_pull_28 ⟨Nat.zero_le _, Nat.zero_le _⟩ (fun H locs hH => ?_)
    obtain rfl := so_i hf
    exact mr_iw X hH rfl dX5_pull_31
  · have hf := it_f c2 hf
    refine lv_iconst (v := 0) hx hb dX5_pull_20 (by decide) ?_
    obtain rfl := so_i hf
    exact mr_iw X hH rfl dX5_pull_21
def f5_pull_0 (x1 : Int32) (v0 : Nat → Int32) (v1 : Nat → Int32) (v3 : Nat → Int32) : Option (Int32 × (Nat → Int32) × (Nat → Int32) × (Nat → Int32)) := Option.bind (f5_isCar_0 v1 x1) (fun t1 => if t1 = 0 then (f5_pull_14 x1 1 v0 v1 v3) else (f5_pull_14 x1 0 v0 v1 v3))
set_option maxRecDepth 100000 in
set_option maxHeartbeats 4000000 in
theorem w5_pull_0 {p : Program} {l : Launch} {e : Env} {s : State} {m : MethodId} {args : Array Value} {below : List Frame} {meth : Method} {c : Code} {D : va_G} {cI cZ : ClassId} {ad : Nat → Nat} {v0 v1 v2 v3 v4 v5 v6 v7 v8 : Nat → Int32} (X : mX D cI cZ p s m args meth c cX5_pull 2 (some .int)) (hI : mInj ad) {x1 : Int32} {t : Int32 × (Nat → Int32) × (Nat → Int32) × (Nat → Int32)}  {H : Heap} {locs : List Loc} (hH : mH D cI cZ ad v0 v1 v2 v3 v4 v5 v6 v7 v8 s H locs) {ls : Array Slot} (hl : lv_has ls 2 [(0, .ref (ad 0)), (1, .int x1)]) (hf : f5_pull_0 x1 v0 v1 v3 = some t) : W p l e rm5_pull s m args below meth c H locs 0 0 (MQ below (va_Qi (fun (r9 : Int32) (_ : Unit) => r9 = t.1) (fun _ t9 => mB D cI cZ ad t.2.1 t.2.2.1 v2 t.2.2.2 v4 v5 v6 v7 v8 t9) (mA ad s.heap.size)) args s 0 0 (mA ad s.heap.size)) (F0 m 0 ls []) := by
  obtain ⟨⟨hx, hb, hml, hown, hts⟩, hr, hlk, hK⟩ := id X
  replace hf : (Option.bind (f5_isCar_0 v1 x1) (fun t1 => if t1 = 0 then (f5_pull_14 x1 1 v0 v1 v3) else (f5_pull_14 x1 0 v0 v1 v3))) = some t := hf
  refine lv_aload_n hx hb dX5_pull_0 rfl (lv_at hl 0 rfl) ?_
  refine lv_aload_n hx hb dX5_pull_1 rfl (lv_at hl 0 rfl) ?_
  refine lv_iload_n hx hb dX5_pull_2 rfl (lv_at hl 1 rfl) ?_
  obtain ⟨t1, ht1, hf⟩ := bd_o hf
  refine k5_isCar X hH.1 hl.1 qX5_64 ⟨Nat.le_of_ble_eq_true rfl, Nat.le_of_ble_eq_true rfl⟩ ht1 (Nat.le_of_ble_eq_true rfl) dX5_pull_3 ⟨Nat.zero_le _, Nat.zero_le _⟩ ?_
  refine lv_if_eq (tgt := 13) hx hb dX5_pull_6 (by decide) (fun c2 => ?_) (fun c2 => ?_)
  · have hf := it_t c2 hf
    refine lv_iconst (v := 1) hx hb dX5_pull_13 (by decide) ?_
    exact w5_pull_14 X hI hH (lv_sub hl [0, 1] rfl) hf
  · have hf := it_f c2 hf
    refine lv_iconst (v := 0) hx hb dX5_pull_9 (by decide) ?_
    refine lv_goto (tgt := 14) hx hb dX5_pull_10 (by decide) ?_
    exact w5_pull_14 X hI hH (lv_sub hl [0, 1] rfl) hf
set_option maxRecDepth 100000 in
set_option maxHeartbeats 4000000 in
theorem c5_pull (l : Launch) {D : va_G} {cI cZ : ClassId} {ad : Nat → Nat} {v0 v1 v2 v3 v4 v5 v6 v7 v8 : Nat → Int32} (hI : mInj ad) (sz : Nat) (x1 : Int32) {t : Int32 × (Nat → Int32) × (Nat → Int32) × (Nat → Int32)} (hf : f5_pull_0 x1 v0 v1 v3 = some t) : Met l yX5_pull uX5_pull rm5_pull (va_Pc [.ref (ad 0), .int x1] (fun U => U.heap.size = sz ∧ mB D cI cZ ad v0 v1 v2 v3 v4 v5 v6 v7 v8 U)) (va_Qi (fun (r9 : Int32) (_ : Unit) => r9 = t.1) (fun _ t9 => mB D cI cZ ad t.2.1 t.2.2.1 v2 t.2.2.2 v4 v5 v6 v7 v8 t9) (mA ad sz)) 0 0 (mA ad sz) := by
  refine Met.ofW (cc := cX5_pull) (maxL := 2) (ret := (some .int)) (by decide) rfl ?_
  intro p e s m args below meth c s₁ B hml hv
  obtain ⟨rfl, hsz, hP, hK⟩ := hv
  subst hsz
  have X : mX D cI cZ p s m ([.ref (ad 0), .int x1] : List Value).toArray meth c cX5_pull 2 (some .int) := ⟨⟨B.exec, B.bytes, hml, findClass_of_methodNamed B.named, fun w h => atoms_spec (ws := uX5_pull) B.pre w (List.mem_cons_of_mem _ h)⟩, B.returns, B.notSynchronized, hK⟩
  have hl := lv_entry ([.ref (ad 0), .int x1]) (n := 2) (Nat.le_of_ble_eq_true rfl)
  rw [lg_entry_eq]
  generalize (lg_sl ([.ref (ad 0), .int x1]) ++ List.replicate (2 - (lg_sl ([.ref (ad 0), .int x1])).length) Slot.unset).toArray = ls at hl ⊢
  have hl : lv_has ls 2 [(0, .ref (ad 0)), (1, .int x1)] := hl
  exact w5_pull_0 X hI ⟨hP, va_S.rf⟩ (lv_sub hl [0, 1] rfl) hf
set_option maxRecDepth 100000 in
set_option maxHeartbeats 4000000 in
theorem k5_pull {p : Program} {l : Launch} {e : Env} {R : Room} {s : State} {m : MethodId} {args : Array Value} {below : List Frame} {meth : Method} {c : Code} {cc : ByteArray} {nL : Nat} {ret : Option FieldType} {D : va_G} {cI cZ : ClassId} {ad : Nat → Nat} {v0 v1 v2 v3 v4 v5 v6 v7 v8 : Nat → Int32} {H : Heap} {locs : List Loc} {cells slots : Nat} {Q : State → Prop} {pc : Nat} {ls : Array Slot} {rest : List Value} (X : mX D cI cZ p s m args meth c cc nL ret) (hI : mInj ad) (hH : mH D cI cZ ad v0 v1 v2 v3 v4 v5 v6 v7 v8 s H locs) (hls : ls.size = nL) {index : Nat} (hG : GoodIn gw (wsV RX5 index RX5 yX5_pull uX5_pull)) (hR : rm5_pull.frames + 1 ≤ R.frames ∧ 8 + (2 + 11) + rm5_pull.locals ≤ R.locals) {x1 : Int32} {t : Int32 × (Nat → Int32) × (Nat → Int32) × (Nat → Int32)} (hf : f5_pull_0 x1 v0 v1 v3 = some t) (hrest : (rest.map fun v => v.category).sum ≤ 8) (hdg : decode cc pc = .ok (.invokevirtual index, 3)) (hc : cells ≤ R.cells ∧ slots ≤ R.slots) (kk : ∀ (H1 : Heap) (locs1 : List Loc), mH D cI cZ ad t.2.1 t.2.2.1 v2 t.2.2.2 v4 v5 v6 v7 v8 s H1 locs1 → W p l e R s m args below meth c H1 locs1 cells slots Q (F0 m (pc + 3) ls (.int t.1 :: rest))) : W p l e R s m args below meth c H locs cells slots Q (F0 m pc ls (.int x1 :: .ref (ad 0) :: rest)) := by
  have hA : ∀ q, mA ad H.size q → mA ad s.heap.size q := fun q h => h.elim Or.inl (fun h => Or.inr (Nat.le_trans hH.2.1 h))
  refine va_calli (va_runV (As := [.int x1]) (rest := rest) X.1 (c5_pull l hI H.size x1 hf) (cwV 1 X.1.2.2.2.2 hG rfl rfl rfl (by decide +kernel) hR) ⟨mBs_bl, va_recv X.2.2.2 hH.1 (ci := 5) (q0 := 0) rfl rfl, fun U hU hW => ⟨rfl, by rw [hU], by rw [hU]; exact hH.1, va_K.moved hW.alike X.2.2.2⟩⟩ rfl rfl hls rfl (lv_room hrest) hdg hc) hH.2 (fun q _ h => hA q h) hA (fun r9 u t9 H1 locs1 ht hvm hw hB hz1 hk1 hS => ?_)
  subst hw
  exact kk H1 locs1 ⟨by rw [← ht]; exact hB.1, hS⟩
/-! OreRailwayModel.least(I)I -/
def rm5_least : Room := { frames := 0, cells := 0, slots := 0, locals := 0 }
def f5_least_10 (y0 : Int32) : Option (Int32) := some y0
set_option maxRecDepth 100000 in
set_option maxHeartbeats 4000000 in
theorem w5_least_10 {p : Program} {l : Launch} {e : Env} {s : State} {m : MethodId} {args : Array Value} {below : List Frame} {meth : Method} {c : Code} (X : sX p s m args meth c cX5_least 1 RX5 (some .int)) {y0 : Int32} {t : Int32}  {ls : Array Slot} (hl : lv_has ls 1 []) (hf : f5_least_10 y0 = some t) : W p l e rm5_least s m args below meth c s.heap [] 0 0 (MQ below (QcRead t) args s 0 0 (fun _ => False)) (F0 m 10 ls [.int y0]) := by
  obtain ⟨⟨hx, hb, hml, hown, hts⟩, hr, hlk⟩ := id X
  replace hf : (some y0) = some t := hf
  obtain rfl := so_i hf
  exact rd_i hx hb hr hlk dX5_least_10
def f5_least_0 (x0 : Int32) : Option (Int32) := if x0 = 1 then (f5_least_10 1) else (f5_least_10 0)
set_option maxRecDepth 100000 in
set_option maxHeartbeats 4000000 in
theorem w5_least_0 {p : Program} {l : Launch} {e : Env} {s : State} {m : MethodId} {args : Array Value} {below : List Frame} {meth : Method} {c : Code} (X : sX p s m args meth c cX5_least 1 RX5 (some .int)) {x0 : Int32} {t : Int32}  {ls : Array Slot} (hl : lv_has ls 1 [(0, .int x0)]) (hf : f5_least_0 x0 = some t) : W p l e rm5_least s m args below meth c s.heap [] 0 0 (MQ below (QcRead t) args s 0 0 (fun _ => False)) (F0 m 0 ls []) := by
  obtain ⟨⟨hx, hb, hml, hown, hts⟩, hr, hlk⟩ := id X
  replace hf : (if x0 = 1 then (f5_least_10 1) else (f5_least_10 0)) = some t := hf
  refine lv_iload_n hx hb dX5_least_0 rfl (lv_at hl 0 rfl) ?_
  refine lv_iconst (v := 1) hx hb dX5_least_1 (by decide) ?_
  refine lv_icmp_ne (tgt := 9) hx hb dX5_least_2 (by decide) (fun c1 => ?_) (fun c1 => ?_)
  · have hf := it_f c1 hf
    refine lv_iconst (v := 0) hx hb dX5_least_9 (by decide) ?_
    exact w5_least_10 X  (lv_sub hl [] rfl) hf
  · have hf := it_t c1 hf
    refine lv_iconst (v := 1) hx hb dX5_least_5 (by decide) ?_
    refine lv_goto (tgt := 10) hx hb dX5_least_6 (by decide) ?_
    exact w5_least_10 X  (lv_sub hl [] rfl) hf
set_option maxRecDepth 100000 in
set_option maxHeartbeats 4000000 in
theorem c5_least (l : Launch) (x0 : Int32) {t : Int32} (hf : f5_least_0 x0 = some t) : Met l yX5_least uX5_least rm5_least (fun v _ => v = ([.int x0] : List Value).toArray) (QcRead t) 0 0 (fun _ => False) := by
  refine Met.ofW (cc := cX5_least) (maxL := 1) (ret := (some .int)) (by decide) rfl ?_
  intro p e s m args below meth c s₁ B hml hv
  obtain rfl := hv
  have X : sX p s m ([.int x0] : List Value).toArray meth c cX5_least 1 RX5 (some .int) := ⟨⟨B.exec, B.bytes, hml, findClass_of_methodNamed B.named, fun w h => atoms_spec (ws := uX5_least) B.pre w (List.mem_cons_of_mem _ h)⟩, B.returns, B.notSynchronized⟩
  have hl := lv_entry ([.int x0]) (n := 1) (Nat.le_of_ble_eq_true rfl)
  rw [lg_entry_eq]
  generalize (lg_sl ([.int x0]) ++ List.replicate (1 - (lg_sl ([.int x0])).length) Slot.unset).toArray = ls at hl ⊢
  have hl : lv_has ls 1 [(0, .int x0)] := hl
  exact w5_least_0 X (lv_sub hl [0] rfl) hf
set_option maxRecDepth 100000 in
set_option maxHeartbeats 4000000 in
theorem k5_least {p : Program} {l : Launch} {e : Env} {R : Room} {s : State} {m : MethodId} {args : Array Value} {below : List Frame} {meth : Method} {c : Code} {cc : ByteArray} {nL : Nat} {own : String} {H : Heap} {locs : List Loc} {cells slots : Nat} {Q : State → Prop} {pc : Nat} {ls : Array Slot} {rest : List Value} (S : CallFix p m c cc nL s args gw own) (hls : ls.size = nL) {index : Nat} (hG : GoodIn gw (va_wsS own index yX5_least uX5_least)) (hR : rm5_least.frames + 1 ≤ R.frames ∧ 8 + (1 + 11) + rm5_least.locals ≤ R.locals) {x0 : Int32} {t : Int32} (hf : f5_least_0 x0 = some t) (hrest : (rest.map fun v => v.category).sum ≤ 8) (hdg : decode cc pc = .ok (.invokestatic index, 3)) (hc : cells ≤ R.cells ∧ slots ≤ R.slots) (kk : W p l e R s m args below meth c H locs cells slots Q (F0 m (pc + 3) ls (.int t :: rest))) : W p l e R s m args below meth c H locs cells slots Q (F0 m pc ls (.int x0 :: rest)) :=
  W.callR (W.runS S (c5_least l x0 hf) (va_cwS 1 S.2.2.2.2 hG rfl rfl rfl (by decide +kernel) hR) preEq rfl rfl hls rfl (lv_room hrest) hdg hc) kk
/-! OreRailwayModel.most(I)I -/
def rm5_most : Room := { frames := 0, cells := 0, slots := 0, locals := 0 }
def f5_most_19 (y0 : Int32) : Option (Int32) := some y0
set_option maxRecDepth 100000 in
set_option maxHeartbeats 4000000 in
theorem w5_most_19 {p : Program} {l : Launch} {e : Env} {s : State} {m : MethodId} {args : Array Value} {below : List Frame} {meth : Method} {c : Code} (X : sX p s m args meth c cX5_most 1 RX5 (some .int)) {y0 : Int32} {t : Int32}  {ls : Array Slot} (hl : lv_has ls 1 []) (hf : f5_most_19 y0 = some t) : W p l e rm5_most s m args below meth c s.heap [] 0 0 (MQ below (QcRead t) args s 0 0 (fun _ => False)) (F0 m 19 ls [.int y0]) := by
  obtain ⟨⟨hx, hb, hml, hown, hts⟩, hr, hlk⟩ := id X
  replace hf : (some y0) = some t := hf
  obtain rfl := so_i hf
  exact rd_i hx hb hr hlk dX5_most_19
def f5_most_0 (x0 : Int32) : Option (Int32) := if x0 = 0 then (f5_most_19 5) else (if x0 = 1 then (f5_most_19 20) else (f5_most_19 4))
set_option maxRecDepth 100000 in
set_option maxHeartbeats 4000000 in
theorem w5_most_0 {p : Program} {l : Launch} {e : Env} {s : State} {m : MethodId} {args : Array Value} {below : List Frame} {meth : Method} {c : Code} (X : sX p s m args meth c cX5_most 1 RX5 (some .int)) {x0 : Int32} {t : Int32}  {ls : Array Slot} (hl : lv_has ls 1 [(0, .int x0)]) (hf : f5_most_0 x0 = some t) : W p l e rm5_most s m args below meth c s.heap [] 0 0 (MQ below (QcRead t) args s 0 0 (fun _ => False)) (F0 m 0 ls []) := by
  obtain ⟨⟨hx, hb, hml, hown, hts⟩, hr, hlk⟩ := id X
  replace hf : (if x0 = 0 then (f5_most_19 5) else (if x0 = 1 then (f5_most_19 20) else (f5_most_19 4))) = some t := hf
  refine lv_iload_n hx hb dX5_most_0 rfl (lv_at hl 0 rfl) ?_
  refine lv_if_ne (tgt := 8) hx hb dX5_most_1 (by decide) (fun c1 => ?_) (fun c1 => ?_)
  · have hf := it_f c1 hf
    refine lv_iload_n hx hb dX5_most_8 rfl (lv_at hl 0 rfl) ?_
    refine lv_iconst (v := 1) hx hb dX5_most_9 (by decide) ?_
    refine lv_icmp_ne (tgt := 18) hx hb dX5_most_10 (by decide) (fun c2 => ?_) (fun c2 => ?_)
    · have hf := it_f c2 hf
      refine lv_iconst (v := 4) hx hb dX5_most_18 (by decide) ?_
      exact w5_most_19 X  (lv_sub hl [] rfl) hf
    · have hf := it_t c2 hf
      refine lv_bipush (v := 20) hx hb dX5_most_13 (by decide) ?_
      refine lv_goto (tgt := 19) hx hb dX5_most_15 (by decide) ?_
      exact w5_most_19 X  (lv_sub hl [] rfl) hf
  · have hf := it_t c1 hf
    refine lv_iconst (v := 5) hx hb dX5_most_4 (by decide) ?_
    refine lv_goto (tgt := 19) hx hb dX5_most_5 (by decide) ?_
    exact w5_most_19 X  (lv_sub hl [] rfl) hf
set_option maxRecDepth 100000 in
set_option maxHeartbeats 4000000 in
theorem c5_most (l : Launch) (x0 : Int32) {t : Int32} (hf : f5_most_0 x0 = some t) : Met l yX5_most uX5_most rm5_most (fun v _ => v = ([.int x0] : List Value).toArray) (QcRead t) 0 0 (fun _ => False) := by
  refine Met.ofW (cc := cX5_most) (maxL := 1) (ret := (some .int)) (by decide) rfl ?_
  intro p e s m args below meth c s₁ B hml hv
  obtain rfl := hv
  have X : sX p s m ([.int x0] : List Value).toArray meth c cX5_most 1 RX5 (some .int) := ⟨⟨B.exec, B.bytes, hml, findClass_of_methodNamed B.named, fun w h => atoms_spec (ws := uX5_most) B.pre w (List.mem_cons_of_mem _ h)⟩, B.returns, B.notSynchronized⟩
  have hl := lv_entry ([.int x0]) (n := 1) (Nat.le_of_ble_eq_true rfl)
  rw [lg_entry_eq]
  generalize (lg_sl ([.int x0]) ++ List.replicate (1 - (lg_sl ([.int x0])).length) Slot.unset).toArray = ls at hl ⊢
  have hl : lv_has ls 1 [(0, .int x0)] := hl
  exact w5_most_0 X (lv_sub hl [0] rfl) hf
set_option maxRecDepth 100000 in
set_option maxHeartbeats 4000000 in
theorem k5_most {p : Program} {l : Launch} {e : Env} {R : Room} {s : State} {m : MethodId} {args : Array Value} {below : List Frame} {meth : Method} {c : Code} {cc : ByteArray} {nL : Nat} {own : String} {H : Heap} {locs : List Loc} {cells slots : Nat} {Q : State → Prop} {pc : Nat} {ls : Array Slot} {rest : List Value} (S : CallFix p m c cc nL s args gw own) (hls : ls.size = nL) {index : Nat} (hG : GoodIn gw (va_wsS own index yX5_most uX5_most)) (hR : rm5_most.frames + 1 ≤ R.frames ∧ 8 + (1 + 11) + rm5_most.locals ≤ R.locals) {x0 : Int32} {t : Int32} (hf : f5_most_0 x0 = some t) (hrest : (rest.map fun v => v.category).sum ≤ 8) (hdg : decode cc pc = .ok (.invokestatic index, 3)) (hc : cells ≤ R.cells ∧ slots ≤ R.slots) (kk : W p l e R s m args below meth c H locs cells slots Q (F0 m (pc + 3) ls (.int t :: rest))) : W p l e R s m args below meth c H locs cells slots Q (F0 m pc ls (.int x0 :: rest)) :=
  W.callR (W.runS S (c5_most l x0 hf) (va_cwS 1 S.2.2.2.2 hG rfl rfl rfl (by decide +kernel) hR) preEq rfl rfl hls rfl (lv_room hrest) hdg hc) kk
/-! OreRailwayModel.set(II)I -/
def rm5_set : Room := { frames := 1, cells := 0, slots := 0, locals := 22 }
def f5_set_34 (x1 : Int32) (x2 : Int32) (y0 : Int32) (v0 : Nat → Int32) (v1 : Nat → Int32) (v3 : Nat → Int32) : Option (Int32 × (Nat → Int32) × (Nat → Int32) × (Nat → Int32)) := Option.bind (f5_refused_0 y0 v0) (fun t1 => if t1.1 = 0 then (Option.bind (f5_saves_0 v1 t1.2 v3) (fun t3 => gd (168 + x1) 171 (gd (168 + x1) 171 (some (v1 (Int32.toNatClampNeg (168 + x1)), t3.1, upd v1 (Int32.toNatClampNeg (168 + x1)) x2, t3.2))))) else (some (0, t1.2, v1, v3)))
set_option maxRecDepth 100000 in
set_option maxHeartbeats 4000000 in
theorem w5_set_34 {p : Program} {l : Launch} {e : Env} {s : State} {m : MethodId} {args : Array Value} {below : List Frame} {meth : Method} {c : Code} {D : va_G} {cI cZ : ClassId} {ad : Nat → Nat} {v0 v1 v2 v3 v4 v5 v6 v7 v8 : Nat → Int32} (X : mX D cI cZ p s m args meth c cX5_set 4 (some .int)) (hI : mInj ad) {x1 : Int32} {x2 : Int32} {y0 : Int32} {t : Int32 × (Nat → Int32) × (Nat → Int32) × (Nat → Int32)}  {H : Heap} {locs : List Loc} (hH : mH D cI cZ ad v0 v1 v2 v3 v4 v5 v6 v7 v8 s H locs) {ls : Array Slot} (hl : lv_has ls 4 [(0, .ref (ad 0)), (1, .int x1), (2, .int x2)]) (hf : f5_set_34 x1 x2 y0 v0 v1 v3 = some t) : W p l e rm5_set s m args below meth c H locs 0 0 (MQ below (va_Qi (fun (r9 : Int32) (_ : Unit) => r9 = t.1) (fun _ t9 => mB D cI cZ ad t.2.1 t.2.2.1 v2 t.2.2.2 v4 v5 v6 v7 v8 t9) (mA ad s.heap.size)) args s 0 0 (mA ad s.heap.size)) (F0 m 34 ls [.int y0, .ref (ad 0)]) := by
  obtain ⟨⟨hx, hb, hml, hown, hts⟩, hr, hlk, hK⟩ := id X
  replace hf : (Option.bind (f5_refused_0 y0 v0) (fun t1 => if t1.1 = 0 then (Option.bind (f5_saves_0 v1 t1.2 v3) (fun t3 => gd (168 + x1) 171 (gd (168 + x1) 171 (some (v1 (Int32.toNatClampNeg (168 + x1)), t3.1, upd v1 (Int32.toNatClampNeg (168 + x1)) x2, t3.2))))) else (some (0, t1.2, v1, v3)))) = some t := hf
  obtain ⟨t1, ht1, hf⟩ := bd_o hf
  refine k5_refused X hI hH hl.1 qX5_50 ⟨Nat.le_of_ble_eq_true rfl, Nat.le_of_ble_eq_true rfl⟩ ht1 (Nat.le_of_ble_eq_true rfl) dX5_set_34 ⟨Nat.zero_le _, Nat.zero_le _⟩ (fun H locs hH => ?_)
  refine lv_if_eq (tgt := 42) hx hb dX5_set_37 (by decide) (fun c2 => ?_) (fun c2 => ?_)
  · have hf := it_t c2 hf
    refine lv_aload_n hx hb dX5_set_42 rfl (lv_at hl 0 rfl) ?_
    obtain ⟨t3, ht3, hf⟩ := bd_o hf
    refine k5_saves X hI hH hl.1 qX5_54 ⟨Nat.le_of_ble_eq_true rfl, Nat.le_of_ble_eq_true rfl⟩ ht3 (Nat.le_of_ble_eq_true rfl) dX5_set_43 ⟨Nat.zero_le _, Nat.zero_le _⟩ (fun H locs hH => ?_)
    refine lv_aload_n hx hb dX5_set_46 rfl (lv_at hl 0 rfl) ?_
    refine mr_get X hH.1 (k := 0) (v := .ref (ad 1)) (by decide) gfX5_7 rfl dX5_set_47 ?_
    refine lv_sipush (v := 168) hx hb dX5_set_50 (by decide) ?_
    refine lv_iload_n hx hb dX5_set_53 rfl (lv_at hl 1 rfl) ?_
    refine lv_iadd hx hb dX5_set_54 ?_
    obtain ⟨hi4, hf⟩ := gd_o hf
    refine mr_ld1 X hH.1 hi4 dX5_set_55 ?_
    refine lv_istore_n (lv' := [(3, .int (v1 (Int32.toNatClampNeg (168 + x1)))), (0, .ref (ad 0)), (1, .int x1), (2, .int x2)]) hx hb dX5_set_56 rfl hl (by decide) rfl (fun ls hl => ?_)
    refine lv_aload_n hx hb dX5_set_57 rfl (lv_at hl 1 rfl) ?_
    refine mr_get X hH.1 (k := 0) (v := .ref (ad 1)) (by decide) gfX5_7 rfl dX5_set_58 ?_
    refine lv_sipush (v := 168) hx hb dX5_set_61 (by decide) ?_
    refine lv_iload_n hx hb dX5_set_64 rfl (lv_at hl 2 rfl) ?_
    refine lv_iadd hx hb dX5_set_65 ?_
    refine lv_iload_n hx hb dX5_set_66 rfl (lv_at hl 3 rfl) ?_
    obtain ⟨hi5, hf⟩ := gd_o hf
    refine mr_st1 X hI hH hi5 dX5_set_67 (fun H locs hH => ?_)
    refine lv_iload_n hx hb dX5_set_68 rfl (lv_at hl 0 rfl) ?_
    obtain rfl := so_i hf
    exact mr_iw X hH rfl dX5_set_69
  · have hf := it_f c2 hf
    refine lv_iconst (v := 0) hx hb dX5_set_40 (by decide) ?_
    obtain rfl := so_i hf
    exact mr_iw X hH rfl dX5_set_41
def f5_set_0 (x1 : Int32) (x2 : Int32) (v0 : Nat → Int32) (v1 : Nat → Int32) (v3 : Nat → Int32) : Option (Int32 × (Nat → Int32) × (Nat → Int32) × (Nat → Int32)) := Option.bind (f5_in_0 x1 0 2) (fun t1 => if t1 = 0 then (f5_set_34 x1 x2 1 v0 v1 v3) else (Option.bind (f5_least_0 x1) (fun t3 => Option.bind (f5_most_0 x1) (fun t4 => Option.bind (f5_in_0 x2 t3 t4) (fun t5 => if t5 = 0 then (f5_set_34 x1 x2 2 v0 v1 v3) else (f5_set_34 x1 x2 0 v0 v1 v3))))))
set_option maxRecDepth 100000 in
set_option maxHeartbeats 4000000 in
theorem w5_set_0 {p : Program} {l : Launch} {e : Env} {s : State} {m : MethodId} {args : Array Value} {below : List Frame} {meth : Method} {c : Code} {D : va_G} {cI cZ : ClassId} {ad : Nat → Nat} {v0 v1 v2 v3 v4 v5 v6 v7 v8 : Nat → Int32} (X : mX D cI cZ p s m args meth c cX5_set 4 (some .int)) (hI : mInj ad) {x1 : Int32} {x2 : Int32} {t : Int32 × (Nat → Int32) × (Nat → Int32) × (Nat → Int32)}  {H : Heap} {locs : List Loc} (hH : mH D cI cZ ad v0 v1 v2 v3 v4 v5 v6 v7 v8 s H locs) {ls : Array Slot} (hl : lv_has ls 4 [(0, .ref (ad 0)), (1, .int x1), (2, .int x2)]) (hf : f5_set_0 x1 x2 v0 v1 v3 = some t) : W p l e rm5_set s m args below meth c H locs 0 0 (MQ below (va_Qi (fun (r9 : Int32) (_ : Unit) => r9 = t.1) (fun _ t9 => mB D cI cZ ad t.2.1 t.2.2.1 v2 t.2.2.2 v4 v5 v6 v7 v8 t9) (mA ad s.heap.size)) args s 0 0 (mA ad s.heap.size)) (F0 m 0 ls []) := by
  obtain ⟨⟨hx, hb, hml, hown, hts⟩, hr, hlk, hK⟩ := id X
  replace hf : (Option.bind (f5_in_0 x1 0 2) (fun t1 => if t1 = 0 then (f5_set_34 x1 x2 1 v0 v1 v3) else (Option.bind (f5_least_0 x1) (fun t3 => Option.bind (f5_most_0 x1) (fun t4 => Option.bind (f5_in_0 x2 t3 t4) (fun t5 => if t5 = 0 then (f5_set_34 x1 x2 2 v0 v1 v3) else (f5_set_34 x1 x2 0 v0 v1 v3))))))) = some t := hf
  refine lv_aload_n hx hb dX5_set_0 rfl (lv_at hl 0 rfl) ?_
  refine lv_iload_n hx hb dX5_set_1 rfl (lv_at hl 1 rfl) ?_
  refine lv_iconst (v := 0) hx hb dX5_set_2 (by decide) ?_
  refine lv_iconst (v := 2) hx hb dX5_set_3 (by decide) ?_
  obtain ⟨t1, ht1, hf⟩ := bd_o hf
  refine k5_in X.1 hl.1 qX5_39 ⟨Nat.le_of_ble_eq_true rfl, Nat.le_of_ble_eq_true rfl⟩ ht1 (Nat.le_of_ble_eq_true rfl) dX5_set_4 ⟨Nat.zero_le _, Nat.zero_le _⟩ ?_
  refine lv_if_ne (tgt := 14) hx hb dX5_set_7 (by decide) (fun c2 => ?_) (fun c2 => ?_)
  · have hf := it_f c2 hf
    refine lv_iload_n hx hb dX5_set_14 rfl (lv_at hl 2 rfl) ?_
    refine lv_iload_n hx hb dX5_set_15 rfl (lv_at hl 1 rfl) ?_
    obtain ⟨t3, ht3, hf⟩ := bd_o hf
    refine k5_least X.1 hl.1 qX5_105 ⟨Nat.le_of_ble_eq_true rfl, Nat.le_of_ble_eq_true rfl⟩ ht3 (Nat.le_of_ble_eq_true rfl) dX5_set_16 ⟨Nat.zero_le _, Nat.zero_le _⟩ ?_
    refine lv_iload_n hx hb dX5_set_19 rfl (lv_at hl 1 rfl) ?_
    obtain ⟨t4, ht4, hf⟩ := bd_o hf
    refine k5_most X.1 hl.1 qX5_108 ⟨Nat.le_of_ble_eq_true rfl, Nat.le_of_ble_eq_true rfl⟩ ht4 (Nat.le_of_ble_eq_true rfl) dX5_set_20 ⟨Nat.zero_le _, Nat.zero_le _⟩ ?_
    obtain ⟨t5, ht5, hf⟩ := bd_o hf
    refine k5_in X.1 hl.1 qX5_39 ⟨Nat.le_of_ble_eq_true rfl, Nat.le_of_ble_eq_true rfl⟩ ht5 (Nat.le_of_ble_eq_true rfl) dX5_set_23 ⟨Nat.zero_le _, Nat.zero_le _⟩ ?_
    refine lv_if_eq (tgt := 33) hx hb dX5_set_26 (by decide) (fun c6 => ?_) (fun c6 => ?_)
    · have hf := it_t c6 hf
      refine lv_iconst (v := 2) hx hb dX5_set_33 (by decide) ?_
      exact w5_set_34 X hI hH (lv_sub hl [0, 1, 2] rfl) hf
    · have hf := it_f c6 hf
      refine lv_iconst (v := 0) hx hb dX5_set_29 (by decide) ?_
      refine lv_goto (tgt := 34) hx hb dX5_set_30 (by decide) ?_
      exact w5_set_34 X hI hH (lv_sub hl [0, 1, 2] rfl) hf
  · have hf := it_t c2 hf
    refine lv_iconst (v := 1) hx hb dX5_set_10 (by decide) ?_
    refine lv_goto (tgt := 34) hx hb dX5_set_11 (by decide) ?_
    exact w5_set_34 X hI hH (lv_sub hl [0, 1, 2] rfl) hf
set_option maxRecDepth 100000 in
set_option maxHeartbeats 4000000 in
theorem c5_set (l : Launch) {D : va_G} {cI cZ : ClassId} {ad : Nat → Nat} {v0 v1 v2 v3 v4 v5 v6 v7 v8 : Nat → Int32} (hI : mInj ad) (sz : Nat) (x1 : Int32) (x2 : Int32) {t : Int32 × (Nat → Int32) × (Nat → Int32) × (Nat → Int32)} (hf : f5_set_0 x1 x2 v0 v1 v3 = some t) : Met l yX5_set uX5_set rm5_set (va_Pc [.ref (ad 0), .int x1, .int x2] (fun U => U.heap.size = sz ∧ mB D cI cZ ad v0 v1 v2 v3 v4 v5 v6 v7 v8 U)) (va_Qi (fun (r9 : Int32) (_ : Unit) => r9 = t.1) (fun _ t9 => mB D cI cZ ad t.2.1 t.2.2.1 v2 t.2.2.2 v4 v5 v6 v7 v8 t9) (mA ad sz)) 0 0 (mA ad sz) := by
  refine Met.ofW (cc := cX5_set) (maxL := 4) (ret := (some .int)) (by decide) rfl ?_
  intro p e s m args below meth c s₁ B hml hv
  obtain ⟨rfl, hsz, hP, hK⟩ := hv
  subst hsz
  have X : mX D cI cZ p s m ([.ref (ad 0), .int x1, .int x2] : List Value).toArray meth c cX5_set 4 (some .int) := ⟨⟨B.exec, B.bytes, hml, findClass_of_methodNamed B.named, fun w h => atoms_spec (ws := uX5_set) B.pre w (List.mem_cons_of_mem _ h)⟩, B.returns, B.notSynchronized, hK⟩
  have hl := lv_entry ([.ref (ad 0), .int x1, .int x2]) (n := 4) (Nat.le_of_ble_eq_true rfl)
  rw [lg_entry_eq]
  generalize (lg_sl ([.ref (ad 0), .int x1, .int x2]) ++ List.replicate (4 - (lg_sl ([.ref (ad 0), .int x1, .int x2])).length) Slot.unset).toArray = ls at hl ⊢
  have hl : lv_has ls 4 [(0, .ref (ad 0)), (1, .int x1), (2, .int x2)] := hl
  exact w5_set_0 X hI ⟨hP, va_S.rf⟩ (lv_sub hl [0, 1, 2] rfl) hf
set_option maxRecDepth 100000 in
set_option maxHeartbeats 4000000 in
theorem k5_set {p : Program} {l : Launch} {e : Env} {R : Room} {s : State} {m : MethodId} {args : Array Value} {below : List Frame} {meth : Method} {c : Code} {cc : ByteArray} {nL : Nat} {ret : Option FieldType} {D : va_G} {cI cZ : ClassId} {ad : Nat → Nat} {v0 v1 v2 v3 v4 v5 v6 v7 v8 : Nat → Int32} {H : Heap} {locs : List Loc} {cells slots : Nat} {Q : State → Prop} {pc : Nat} {ls : Array Slot} {rest : List Value} (X : mX D cI cZ p s m args meth c cc nL ret) (hI : mInj ad) (hH : mH D cI cZ ad v0 v1 v2 v3 v4 v5 v6 v7 v8 s H locs) (hls : ls.size = nL) {index : Nat} (hG : GoodIn gw (wsV RX5 index RX5 yX5_set uX5_set)) (hR : rm5_set.frames + 1 ≤ R.frames ∧ 8 + (4 + 11) + rm5_set.locals ≤ R.locals) {x1 : Int32} {x2 : Int32} {t : Int32 × (Nat → Int32) × (Nat → Int32) × (Nat → Int32)} (hf : f5_set_0 x1 x2 v0 v1 v3 = some t) (hrest : (rest.map fun v => v.category).sum ≤ 8) (hdg : decode cc pc = .ok (.invokevirtual index, 3)) (hc : cells ≤ R.cells ∧ slots ≤ R.slots) (kk : ∀ (H1 : Heap) (locs1 : List Loc), mH D cI cZ ad t.2.1 t.2.2.1 v2 t.2.2.2 v4 v5 v6 v7 v8 s H1 locs1 → W p l e R s m args below meth c H1 locs1 cells slots Q (F0 m (pc + 3) ls (.int t.1 :: rest))) : W p l e R s m args below meth c H locs cells slots Q (F0 m pc ls (.int x2 :: .int x1 :: .ref (ad 0) :: rest)) := by
  have hA : ∀ q, mA ad H.size q → mA ad s.heap.size q := fun q h => h.elim Or.inl (fun h => Or.inr (Nat.le_trans hH.2.1 h))
  refine va_calli (va_runV (As := [.int x1, .int x2]) (rest := rest) X.1 (c5_set l hI H.size x1 x2 hf) (cwV 2 X.1.2.2.2.2 hG rfl rfl rfl (by decide +kernel) hR) ⟨mBs_bl, va_recv X.2.2.2 hH.1 (ci := 5) (q0 := 0) rfl rfl, fun U hU hW => ⟨rfl, by rw [hU], by rw [hU]; exact hH.1, va_K.moved hW.alike X.2.2.2⟩⟩ rfl rfl hls rfl (lv_room hrest) hdg hc) hH.2 (fun q _ h => hA q h) hA (fun r9 u t9 H1 locs1 ht hvm hw hB hz1 hk1 hS => ?_)
  subst hw
  exact kk H1 locs1 ⟨by rw [← ht]; exact hB.1, hS⟩
/-! OreRailwayModel.force(I)I -/
def rm5_force : Room := { frames := 1, cells := 0, slots := 0, locals := 21 }
def f5_force_40 (v1 : Nat → Int32) (y0 : Int32) : Option (Int32) := some y0
set_option maxRecDepth 100000 in
set_option maxHeartbeats 4000000 in
theorem w5_force_40 {p : Program} {l : Launch} {e : Env} {s : State} {m : MethodId} {args : Array Value} {below : List Frame} {meth : Method} {c : Code} {D : va_G} {cI cZ : ClassId} {ad : Nat → Nat} {v0 v1 v2 v3 v4 v5 v6 v7 v8 : Nat → Int32} (X : mX D cI cZ p s m args meth c cX5_force 2 (some .int)) (hP : va_P D vwCl (mwW cI cZ ad v0 v1 v2 v3 v4 v5 v6 v7 v8) s.heap) {y0 : Int32} {t : Int32}  {ls : Array Slot} (hl : lv_has ls 2 []) (hf : f5_force_40 v1 y0 = some t) : W p l e rm5_force s m args below meth c s.heap [] 0 0 (MQ below (QcRead t) args s 0 0 (fun _ => False)) (F0 m 40 ls [.int y0]) := by
  obtain ⟨⟨hx, hb, hml, hown, hts⟩, hr, hlk, hK⟩ := id X
  replace hf : (some y0) = some t := hf
  obtain rfl := so_i hf
  exact rd_i hx hb hr hlk dX5_force_40
def f5_force_0 (v1 : Nat → Int32) (x1 : Int32) : Option (Int32) := gd (e5_of x1 5) 171 (if 100 < (v1 (Int32.toNatClampNeg (e5_of x1 5))) then (gd (e5_of x1 2) 171 (f5_force_40 v1 ((v1 (Int32.toNatClampNeg (e5_of x1 2))) / 2))) else (gd (e5_of x1 2) 171 (f5_force_40 v1 (v1 (Int32.toNatClampNeg (e5_of x1 2))))))
set_option maxRecDepth 100000 in
set_option maxHeartbeats 4000000 in
theorem w5_force_0 {p : Program} {l : Launch} {e : Env} {s : State} {m : MethodId} {args : Array Value} {below : List Frame} {meth : Method} {c : Code} {D : va_G} {cI cZ : ClassId} {ad : Nat → Nat} {v0 v1 v2 v3 v4 v5 v6 v7 v8 : Nat → Int32} (X : mX D cI cZ p s m args meth c cX5_force 2 (some .int)) (hP : va_P D vwCl (mwW cI cZ ad v0 v1 v2 v3 v4 v5 v6 v7 v8) s.heap) {x1 : Int32} {t : Int32}  {ls : Array Slot} (hl : lv_has ls 2 [(0, .ref (ad 0)), (1, .int x1)]) (hf : f5_force_0 v1 x1 = some t) : W p l e rm5_force s m args below meth c s.heap [] 0 0 (MQ below (QcRead t) args s 0 0 (fun _ => False)) (F0 m 0 ls []) := by
  obtain ⟨⟨hx, hb, hml, hown, hts⟩, hr, hlk, hK⟩ := id X
  replace hf : (gd (e5_of x1 5) 171 (if 100 < (v1 (Int32.toNatClampNeg (e5_of x1 5))) then (gd (e5_of x1 2) 171 (f5_force_40 v1 ((v1 (Int32.toNatClampNeg (e5_of x1 2))) / 2))) else (gd (e5_of x1 2) 171 (f5_force_40 v1 (v1 (Int32.toNatClampNeg (e5_of x1 2))))))) = some t := hf
  refine lv_aload_n hx hb dX5_force_0 rfl (lv_at hl 0 rfl) ?_
  refine mr_get X hP (k := 0) (v := .ref (ad 1)) (by decide) gfX5_7 rfl dX5_force_1 ?_
  refine lv_iload_n hx hb dX5_force_4 rfl (lv_at hl 1 rfl) ?_
  refine lv_iconst (v := 5) hx hb dX5_force_5 (by decide) ?_
  refine k5_of X.1 hl.1 qX5_43 ⟨Nat.le_of_ble_eq_true rfl, Nat.le_of_ble_eq_true rfl⟩ (Nat.le_of_ble_eq_true rfl) dX5_force_6 ⟨Nat.zero_le _, Nat.zero_le _⟩ ?_
  obtain ⟨hi1, hf⟩ := gd_o hf
  refine mr_ld1 X hP hi1 dX5_force_9 ?_
  refine lv_bipush (v := 100) hx hb dX5_force_10 (by decide) ?_
  refine lv_icmp_gt (tgt := 28) hx hb dX5_force_12 (by decide) (fun c2 => ?_) (fun c2 => ?_)
  · have hf := it_t c2 hf
    refine lv_aload_n hx hb dX5_force_28 rfl (lv_at hl 0 rfl) ?_
    refine mr_get X hP (k := 0) (v := .ref (ad 1)) (by decide) gfX5_7 rfl dX5_force_29 ?_
    refine lv_iload_n hx hb dX5_force_32 rfl (lv_at hl 1 rfl) ?_
    refine lv_iconst (v := 2) hx hb dX5_force_33 (by decide) ?_
    refine k5_of X.1 hl.1 qX5_43 ⟨Nat.le_of_ble_eq_true rfl, Nat.le_of_ble_eq_true rfl⟩ (Nat.le_of_ble_eq_true rfl) dX5_force_34 ⟨Nat.zero_le _, Nat.zero_le _⟩ ?_
    obtain ⟨hi3, hf⟩ := gd_o hf
    refine mr_ld1 X hP hi3 dX5_force_37 ?_
    refine lv_iconst (v := 2) hx hb dX5_force_38 (by decide) ?_
    refine lv_idiv hx hb dX5_force_39 (by decide) ?_
    exact w5_force_40 X hP  (lv_sub hl [] rfl) hf
  · have hf := it_f c2 hf
    refine lv_aload_n hx hb dX5_force_15 rfl (lv_at hl 0 rfl) ?_
    refine mr_get X hP (k := 0) (v := .ref (ad 1)) (by decide) gfX5_7 rfl dX5_force_16 ?_
    refine lv_iload_n hx hb dX5_force_19 rfl (lv_at hl 1 rfl) ?_
    refine lv_iconst (v := 2) hx hb dX5_force_20 (by decide) ?_
    refine k5_of X.1 hl.1 qX5_43 ⟨Nat.le_of_ble_eq_true rfl, Nat.le_of_ble_eq_true rfl⟩ (Nat.le_of_ble_eq_true rfl) dX5_force_21 ⟨Nat.zero_le _, Nat.zero_le _⟩ ?_
    obtain ⟨hi4, hf⟩ := gd_o hf
    refine mr_ld1 X hP hi4 dX5_force_24 ?_
    refine lv_goto (tgt := 40) hx hb dX5_force_25 (by decide) ?_
    exact w5_force_40 X hP  (lv_sub hl [] rfl) hf
set_option maxRecDepth 100000 in
set_option maxHeartbeats 4000000 in
theorem c5_force (l : Launch) {D : va_G} {cI cZ : ClassId} {ad : Nat → Nat} {v0 v1 v2 v3 v4 v5 v6 v7 v8 : Nat → Int32} (x1 : Int32) {t : Int32} (hf : f5_force_0 v1 x1 = some t) : Met l yX5_force uX5_force rm5_force (va_Pc [.ref (ad 0), .int x1] (mB D cI cZ ad v0 v1 v2 v3 v4 v5 v6 v7 v8)) (QcRead t) 0 0 (fun _ => False) := by
  refine Met.ofW (cc := cX5_force) (maxL := 2) (ret := (some .int)) (by decide) rfl ?_
  intro p e s m args below meth c s₁ B hml hv
  obtain ⟨rfl, hP, hK⟩ := hv
  have X : mX D cI cZ p s m ([.ref (ad 0), .int x1] : List Value).toArray meth c cX5_force 2 (some .int) := ⟨⟨B.exec, B.bytes, hml, findClass_of_methodNamed B.named, fun w h => atoms_spec (ws := uX5_force) B.pre w (List.mem_cons_of_mem _ h)⟩, B.returns, B.notSynchronized, hK⟩
  have hl := lv_entry ([.ref (ad 0), .int x1]) (n := 2) (Nat.le_of_ble_eq_true rfl)
  rw [lg_entry_eq]
  generalize (lg_sl ([.ref (ad 0), .int x1]) ++ List.replicate (2 - (lg_sl ([.ref (ad 0), .int x1])).length) Slot.unset).toArray = ls at hl ⊢
  have hl : lv_has ls 2 [(0, .ref (ad 0)), (1, .int x1)] := hl
  exact w5_force_0 X hP (lv_sub hl [0, 1] rfl) hf
set_option maxRecDepth 100000 in
set_option maxHeartbeats 4000000 in
theorem k5_force {p : Program} {l : Launch} {e : Env} {R : Room} {s : State} {m : MethodId} {args : Array Value} {below : List Frame} {meth : Method} {c : Code} {cc : ByteArray} {nL : Nat} {ret : Option FieldType} {D : va_G} {cI cZ : ClassId} {ad : Nat → Nat} {v0 v1 v2 v3 v4 v5 v6 v7 v8 : Nat → Int32} {H : Heap} {locs : List Loc} {cells slots : Nat} {Q : State → Prop} {pc : Nat} {ls : Array Slot} {rest : List Value} (X : mX D cI cZ p s m args meth c cc nL ret) (hP : va_P D vwCl (mwW cI cZ ad v0 v1 v2 v3 v4 v5 v6 v7 v8) H) (hls : ls.size = nL) {index : Nat} (hG : GoodIn gw (wsV RX5 index RX5 yX5_force uX5_force)) (hR : rm5_force.frames + 1 ≤ R.frames ∧ 8 + (2 + 11) + rm5_force.locals ≤ R.locals) {x1 : Int32} {t : Int32} (hf : f5_force_0 v1 x1 = some t) (hrest : (rest.map fun v => v.category).sum ≤ 8) (hdg : decode cc pc = .ok (.invokevirtual index, 3)) (hc : cells ≤ R.cells ∧ slots ≤ R.slots) (kk : W p l e R s m args below meth c H locs cells slots Q (F0 m (pc + 3) ls (.int t :: rest))) : W p l e R s m args below meth c H locs cells slots Q (F0 m pc ls (.int x1 :: .ref (ad 0) :: rest)) :=
  W.callR (W.runV (As := [.int x1]) X.1 (c5_force l x1 hf) (cwV 1 X.1.2.2.2.2 hG rfl rfl rfl (by decide +kernel) hR) ⟨mB_bl, va_recv X.2.2.2 hP (ci := 5) (q0 := 0) rfl rfl, fun U hU hW => ⟨rfl, by rw [hU]; exact hP, va_K.moved hW.alike X.2.2.2⟩⟩ rfl rfl hls rfl (lv_room hrest) hdg hc) kk
/-! OreRailwayModel.isAhead(II)Z -/
def rm5_isAhead : Room := { frames := 1, cells := 0, slots := 0, locals := 21 }
def f5_isAhead_45 (v1 : Nat → Int32) (y0 : Int32) : Option (Int32) := gz y0 (some y0)
set_option maxRecDepth 100000 in
set_option maxHeartbeats 4000000 in
theorem w5_isAhead_45 {p : Program} {l : Launch} {e : Env} {s : State} {m : MethodId} {args : Array Value} {below : List Frame} {meth : Method} {c : Code} {D : va_G} {cI cZ : ClassId} {ad : Nat → Nat} {v0 v1 v2 v3 v4 v5 v6 v7 v8 : Nat → Int32} (X : mX D cI cZ p s m args meth c cX5_isAhead 5 (some .boolean)) (hP : va_P D vwCl (mwW cI cZ ad v0 v1 v2 v3 v4 v5 v6 v7 v8) s.heap) {y0 : Int32} {t : Int32}  {ls : Array Slot} (hl : lv_has ls 5 []) (hf : f5_isAhead_45 v1 y0 = some t) : W p l e rm5_isAhead s m args below meth c s.heap [] 0 0 (MQ below (QcRead t) args s 0 0 (fun _ => False)) (F0 m 45 ls [.int y0]) := by
  obtain ⟨⟨hx, hb, hml, hown, hts⟩, hr, hlk, hK⟩ := id X
  replace hf : (gz y0 (some y0)) = some t := hf
  obtain ⟨hz, hf⟩ := gz_o hf
  obtain rfl := so_i hf
  exact rd_z hx hb hr hlk (nz_z hz) dX5_isAhead_45
def f5_isAhead_44 (v1 : Nat → Int32) : Option (Int32) := f5_isAhead_45 v1 0
set_option maxRecDepth 100000 in
set_option maxHeartbeats 4000000 in
theorem w5_isAhead_44 {p : Program} {l : Launch} {e : Env} {s : State} {m : MethodId} {args : Array Value} {below : List Frame} {meth : Method} {c : Code} {D : va_G} {cI cZ : ClassId} {ad : Nat → Nat} {v0 v1 v2 v3 v4 v5 v6 v7 v8 : Nat → Int32} (X : mX D cI cZ p s m args meth c cX5_isAhead 5 (some .boolean)) (hP : va_P D vwCl (mwW cI cZ ad v0 v1 v2 v3 v4 v5 v6 v7 v8) s.heap) {t : Int32}  {ls : Array Slot} (hl : lv_has ls 5 []) (hf : f5_isAhead_44 v1  = some t) : W p l e rm5_isAhead s m args below meth c s.heap [] 0 0 (MQ below (QcRead t) args s 0 0 (fun _ => False)) (F0 m 44 ls []) := by
  obtain ⟨⟨hx, hb, hml, hown, hts⟩, hr, hlk, hK⟩ := id X
  replace hf : (f5_isAhead_45 v1 0) = some t := hf
  refine lv_iconst (v := 0) hx hb dX5_isAhead_44 (by decide) ?_
  exact w5_isAhead_45 X hP  (lv_sub hl [] rfl) hf
def f5_isAhead_40 (v1 : Nat → Int32) : Option (Int32) := f5_isAhead_45 v1 1
set_option maxRecDepth 100000 in
set_option maxHeartbeats 4000000 in
theorem w5_isAhead_40 {p : Program} {l : Launch} {e : Env} {s : State} {m : MethodId} {args : Array Value} {below : List Frame} {meth : Method} {c : Code} {D : va_G} {cI cZ : ClassId} {ad : Nat → Nat} {v0 v1 v2 v3 v4 v5 v6 v7 v8 : Nat → Int32} (X : mX D cI cZ p s m args meth c cX5_isAhead 5 (some .boolean)) (hP : va_P D vwCl (mwW cI cZ ad v0 v1 v2 v3 v4 v5 v6 v7 v8) s.heap) {t : Int32}  {ls : Array Slot} (hl : lv_has ls 5 []) (hf : f5_isAhead_40 v1  = some t) : W p l e rm5_isAhead s m args below meth c s.heap [] 0 0 (MQ below (QcRead t) args s 0 0 (fun _ => False)) (F0 m 40 ls []) := by
  obtain ⟨⟨hx, hb, hml, hown, hts⟩, hr, hlk, hK⟩ := id X
  replace hf : (f5_isAhead_45 v1 1) = some t := hf
  refine lv_iconst (v := 1) hx hb dX5_isAhead_40 (by decide) ?_
  refine lv_goto (tgt := 45) hx hb dX5_isAhead_41 (by decide) ?_
  exact w5_isAhead_45 X hP  (lv_sub hl [] rfl) hf
def f5_isAhead_0 (v1 : Nat → Int32) (x1 : Int32) (x2 : Int32) : Option (Int32) := gd (e5_of x1 4) 171 (gd (e5_of x2 4) 171 (if (v1 (Int32.toNatClampNeg (e5_of x2 4))) < (v1 (Int32.toNatClampNeg (e5_of x1 4))) then (f5_isAhead_40 v1) else (if (v1 (Int32.toNatClampNeg (e5_of x1 4))) = (v1 (Int32.toNatClampNeg (e5_of x2 4))) then (if x2 ≤ x1 then (f5_isAhead_44 v1) else (f5_isAhead_40 v1)) else (f5_isAhead_44 v1))))
set_option maxRecDepth 100000 in
set_option maxHeartbeats 4000000 in
theorem w5_isAhead_0 {p : Program} {l : Launch} {e : Env} {s : State} {m : MethodId} {args : Array Value} {below : List Frame} {meth : Method} {c : Code} {D : va_G} {cI cZ : ClassId} {ad : Nat → Nat} {v0 v1 v2 v3 v4 v5 v6 v7 v8 : Nat → Int32} (X : mX D cI cZ p s m args meth c cX5_isAhead 5 (some .boolean)) (hP : va_P D vwCl (mwW cI cZ ad v0 v1 v2 v3 v4 v5 v6 v7 v8) s.heap) {x1 : Int32} {x2 : Int32} {t : Int32}  {ls : Array Slot} (hl : lv_has ls 5 [(0, .ref (ad 0)), (1, .int x1), (2, .int x2)]) (hf : f5_isAhead_0 v1 x1 x2 = some t) : W p l e rm5_isAhead s m args below meth c s.heap [] 0 0 (MQ below (QcRead t) args s 0 0 (fun _ => False)) (F0 m 0 ls []) := by
  obtain ⟨⟨hx, hb, hml, hown, hts⟩, hr, hlk, hK⟩ := id X
  replace hf : (gd (e5_of x1 4) 171 (gd (e5_of x2 4) 171 (if (v1 (Int32.toNatClampNeg (e5_of x2 4))) < (v1 (Int32.toNatClampNeg (e5_of x1 4))) then (f5_isAhead_40 v1) else (if (v1 (Int32.toNatClampNeg (e5_of x1 4))) = (v1 (Int32.toNatClampNeg (e5_of x2 4))) then (if x2 ≤ x1 then (f5_isAhead_44 v1) else (f5_isAhead_40 v1)) else (f5_isAhead_44 v1))))) = some t := hf
  refine lv_aload_n hx hb dX5_isAhead_0 rfl (lv_at hl 0 rfl) ?_
  refine mr_get X hP (k := 0) (v := .ref (ad 1)) (by decide) gfX5_7 rfl dX5_isAhead_1 ?_
  refine lv_iload_n hx hb dX5_isAhead_4 rfl (lv_at hl 1 rfl) ?_
  refine lv_iconst (v := 4) hx hb dX5_isAhead_5 (by decide) ?_
  refine k5_of X.1 hl.1 qX5_43 ⟨Nat.le_of_ble_eq_true rfl, Nat.le_of_ble_eq_true rfl⟩ (Nat.le_of_ble_eq_true rfl) dX5_isAhead_6 ⟨Nat.zero_le _, Nat.zero_le _⟩ ?_
  obtain ⟨hi1, hf⟩ := gd_o hf
  refine mr_ld1 X hP hi1 dX5_isAhead_9 ?_
  refine lv_istore_n (lv' := [(3, .int (v1 (Int32.toNatClampNeg (e5_of x1 4)))), (0, .ref (ad 0)), (1, .int x1), (2, .int x2)]) hx hb dX5_isAhead_10 rfl hl (by decide) rfl (fun ls hl => ?_)
  refine lv_aload_n hx hb dX5_isAhead_11 rfl (lv_at hl 1 rfl) ?_
  refine mr_get X hP (k := 0) (v := .ref (ad 1)) (by decide) gfX5_7 rfl dX5_isAhead_12 ?_
  refine lv_iload_n hx hb dX5_isAhead_15 rfl (lv_at hl 3 rfl) ?_
  refine lv_iconst (v := 4) hx hb dX5_isAhead_16 (by decide) ?_
  refine k5_of X.1 hl.1 qX5_43 ⟨Nat.le_of_ble_eq_true rfl, Nat.le_of_ble_eq_true rfl⟩ (Nat.le_of_ble_eq_true rfl) dX5_isAhead_17 ⟨Nat.zero_le _, Nat.zero_le _⟩ ?_
  obtain ⟨hi2, hf⟩ := gd_o hf
  refine mr_ld1 X hP hi2 dX5_isAhead_20 ?_
  refine lv_istore (lv' := [(4, .int (v1 (Int32.toNatClampNeg (e5_of x2 4)))), (3, .int (v1 (Int32.toNatClampNeg (e5_of x1 4)))), (0, .ref (ad 0)), (1, .int x1), (2, .int x2)]) hx hb dX5_isAhead_21 hl (by decide) rfl (fun ls hl => ?_)
  refine lv_iload_n hx hb dX5_isAhead_23 rfl (lv_at hl 1 rfl) ?_
  refine lv_iload hx hb dX5_isAhead_24 (lv_at hl 0 rfl) ?_
  refine lv_icmp_gt (tgt := 40) hx hb dX5_isAhead_26 (by decide) (fun c3 => ?_) (fun c3 => ?_)
  · have hf := it_t c3 hf
    exact w5_isAhead_40 X hP  (lv_sub hl [] rfl) hf
  · have hf := it_f c3 hf
    refine lv_iload_n hx hb dX5_isAhead_29 rfl (lv_at hl 1 rfl) ?_
    refine lv_iload hx hb dX5_isAhead_30 (lv_at hl 0 rfl) ?_
    refine lv_icmp_ne (tgt := 44) hx hb dX5_isAhead_32 (by decide) (fun c4 => ?_) (fun c4 => ?_)
    · have hf := it_f c4 hf
      exact w5_isAhead_44 X hP  (lv_sub hl [] rfl) hf
    · have hf := it_t c4 hf
      refine lv_iload_n hx hb dX5_isAhead_35 rfl (lv_at hl 3 rfl) ?_
      refine lv_iload_n hx hb dX5_isAhead_36 rfl (lv_at hl 4 rfl) ?_
      refine lv_icmp_ge (tgt := 44) hx hb dX5_isAhead_37 (by decide) (fun c5 => ?_) (fun c5 => ?_)
      · have hf := it_t c5 hf
        exact w5_isAhead_44 X hP  (lv_sub hl [] rfl) hf
      · have hf := it_f c5 hf
        exact w5_isAhead_40 X hP  (lv_sub hl [] rfl) hf
set_option maxRecDepth 100000 in
set_option maxHeartbeats 4000000 in
theorem c5_isAhead (l : Launch) {D : va_G} {cI cZ : ClassId} {ad : Nat → Nat} {v0 v1 v2 v3 v4 v5 v6 v7 v8 : Nat → Int32} (x1 : Int32) (x2 : Int32) {t : Int32} (hf : f5_isAhead_0 v1 x1 x2 = some t) : Met l yX5_isAhead uX5_isAhead rm5_isAhead (va_Pc [.ref (ad 0), .int x1, .int x2] (mB D cI cZ ad v0 v1 v2 v3 v4 v5 v6 v7 v8)) (QcRead t) 0 0 (fun _ => False) := by
  refine Met.ofW (cc := cX5_isAhead) (maxL := 5) (ret := (some .boolean)) (by decide) rfl ?_
  intro p e s m args below meth c s₁ B hml hv
  obtain ⟨rfl, hP, hK⟩ := hv
  have X : mX D cI cZ p s m ([.ref (ad 0), .int x1, .int x2] : List Value).toArray meth c cX5_isAhead 5 (some .boolean) := ⟨⟨B.exec, B.bytes, hml, findClass_of_methodNamed B.named, fun w h => atoms_spec (ws := uX5_isAhead) B.pre w (List.mem_cons_of_mem _ h)⟩, B.returns, B.notSynchronized, hK⟩
  have hl := lv_entry ([.ref (ad 0), .int x1, .int x2]) (n := 5) (Nat.le_of_ble_eq_true rfl)
  rw [lg_entry_eq]
  generalize (lg_sl ([.ref (ad 0), .int x1, .int x2]) ++ List.replicate (5 - (lg_sl ([.ref (ad 0), .int x1, .int x2])).length) Slot.unset).toArray = ls at hl ⊢
  have hl : lv_has ls 5 [(0, .ref (ad 0)), (1, .int x1), (2, .int x2)] := hl
  exact w5_isAhead_0 X hP (lv_sub hl [0, 1, 2] rfl) hf
set_option maxRecDepth 100000 in
set_option maxHeartbeats 4000000 in
theorem k5_isAhead {p : Program} {l : Launch} {e : Env} {R : Room} {s : State} {m : MethodId} {args : Array Value} {below : List Frame} {meth : Method} {c : Code} {cc : ByteArray} {nL : Nat} {ret : Option FieldType} {D : va_G} {cI cZ : ClassId} {ad : Nat → Nat} {v0 v1 v2 v3 v4 v5 v6 v7 v8 : Nat → Int32} {H : Heap} {locs : List Loc} {cells slots : Nat} {Q : State → Prop} {pc : Nat} {ls : Array Slot} {rest : List Value} (X : mX D cI cZ p s m args meth c cc nL ret) (hP : va_P D vwCl (mwW cI cZ ad v0 v1 v2 v3 v4 v5 v6 v7 v8) H) (hls : ls.size = nL) {index : Nat} (hG : GoodIn gw (wsV RX5 index RX5 yX5_isAhead uX5_isAhead)) (hR : rm5_isAhead.frames + 1 ≤ R.frames ∧ 8 + (5 + 11) + rm5_isAhead.locals ≤ R.locals) {x1 : Int32} {x2 : Int32} {t : Int32} (hf : f5_isAhead_0 v1 x1 x2 = some t) (hrest : (rest.map fun v => v.category).sum ≤ 8) (hdg : decode cc pc = .ok (.invokevirtual index, 3)) (hc : cells ≤ R.cells ∧ slots ≤ R.slots) (kk : W p l e R s m args below meth c H locs cells slots Q (F0 m (pc + 3) ls (.int t :: rest))) : W p l e R s m args below meth c H locs cells slots Q (F0 m pc ls (.int x2 :: .int x1 :: .ref (ad 0) :: rest)) :=
  W.callR (W.runV (As := [.int x1, .int x2]) X.1 (c5_isAhead l x1 x2 hf) (cwV 2 X.1.2.2.2.2 hG rfl rfl rfl (by decide +kernel) hR) ⟨mB_bl, va_recv X.2.2.2 hP (ci := 5) (q0 := 0) rfl rfl, fun U hU hW => ⟨rfl, by rw [hU]; exact hP, va_K.moved hW.alike X.2.2.2⟩⟩ rfl rfl hls rfl (lv_room hrest) hdg hc) kk
/-! OreRailwayModel.notes()I -/
def rm5_notes : Room := { frames := 2, cells := 0, slots := 0, locals := 45 }
def f5_notes_77 (v1 : Nat → Int32) (K4 : Int32 → Int32 → (Nat → Int32) → (Option (Int32 × (Nat → Int32)))) (x1 : Int32) (x2 : Int32) (v7 : Nat → Int32) : Option (Int32 × (Nat → Int32)) := K4 x1 (x2 + 1) v7
set_option maxRecDepth 100000 in
set_option maxHeartbeats 4000000 in
theorem w5_notes_77 {p : Program} {l : Launch} {e : Env} {s : State} {m : MethodId} {args : Array Value} {below : List Frame} {meth : Method} {c : Code} {D : va_G} {cI cZ : ClassId} {ad : Nat → Nat} {v0 v1 v2 v3 v4 v5 v6 v7 v8 : Nat → Int32} (X : mX D cI cZ p s m args meth c cX5_notes 4 (some .int)) (hI : mInj ad) {x1 : Int32} {x2 : Int32} {t : Int32 × (Nat → Int32)} {K4 : Int32 → Int32 → (Nat → Int32) → (Option (Int32 × (Nat → Int32)))} (hK4 : ∀ (x1 : Int32) (x2 : Int32) (v7 : Nat → Int32) (H : Heap) (locs : List Loc), mH D cI cZ ad v0 v1 v2 v3 v4 v5 v6 v7 v8 s H locs → ∀ (ls : Array Slot), lv_has ls 4 [(0, .ref (ad 0)), (1, .int x1), (2, .int x2)] → K4 x1 x2 v7 = some t → W p l e rm5_notes s m args below meth c H locs 0 0 (MQ below (va_Qi (fun (r9 : Int32) (_ : Unit) => r9 = t.1) (fun _ t9 => mB D cI cZ ad v0 v1 v2 v3 v4 v5 v6 t.2 v8 t9) (mA ad s.heap.size)) args s 0 0 (mA ad s.heap.size)) (F0 m 4 ls []))  {H : Heap} {locs : List Loc} (hH : mH D cI cZ ad v0 v1 v2 v3 v4 v5 v6 v7 v8 s H locs) {ls : Array Slot} (hl : lv_has ls 4 [(0, .ref (ad 0)), (1, .int x1), (2, .int x2)]) (hf : f5_notes_77 v1 K4 x1 x2 v7 = some t) : W p l e rm5_notes s m args below meth c H locs 0 0 (MQ below (va_Qi (fun (r9 : Int32) (_ : Unit) => r9 = t.1) (fun _ t9 => mB D cI cZ ad v0 v1 v2 v3 v4 v5 v6 t.2 v8 t9) (mA ad s.heap.size)) args s 0 0 (mA ad s.heap.size)) (F0 m 77 ls []) := by
  obtain ⟨⟨hx, hb, hml, hown, hts⟩, hr, hlk, hK⟩ := id X
  replace hf : (K4 x1 (x2 + 1) v7) = some t := hf
  refine lv_iinc (v := x2 + 1) (lv' := [(2, .int (x2 + 1)), (0, .ref (ad 0)), (1, .int x1)]) hx hb dX5_notes_77 hl (k := 2) rfl rfl (by decide) rfl (fun ls hl => ?_)
  refine lv_goto (tgt := 4) hx hb dX5_notes_80 (by decide) ?_
  exact hK4 _ _ _ _ _ hH _ (lv_sub hl [1, 2, 0] rfl) hf
def f5_notes_67 (v1 : Nat → Int32) (K4 : Int32 → Int32 → (Nat → Int32) → (Option (Int32 × (Nat → Int32)))) (x1 : Int32) (x2 : Int32) (x3 : Int32) (v7 : Nat → Int32) : Option (Int32 × (Nat → Int32)) := gd x3 8 (f5_notes_77 v1 K4 (x1 + 1) x2 (upd v7 (Int32.toNatClampNeg x3) x2))
set_option maxRecDepth 100000 in
set_option maxHeartbeats 4000000 in
theorem w5_notes_67 {p : Program} {l : Launch} {e : Env} {s : State} {m : MethodId} {args : Array Value} {below : List Frame} {meth : Method} {c : Code} {D : va_G} {cI cZ : ClassId} {ad : Nat → Nat} {v0 v1 v2 v3 v4 v5 v6 v7 v8 : Nat → Int32} (X : mX D cI cZ p s m args meth c cX5_notes 4 (some .int)) (hI : mInj ad) {x1 : Int32} {x2 : Int32} {x3 : Int32} {t : Int32 × (Nat → Int32)} {K4 : Int32 → Int32 → (Nat → Int32) → (Option (Int32 × (Nat → Int32)))} (hK4 : ∀ (x1 : Int32) (x2 : Int32) (v7 : Nat → Int32) (H : Heap) (locs : List Loc), mH D cI cZ ad v0 v1 v2 v3 v4 v5 v6 v7 v8 s H locs → ∀ (ls : Array Slot), lv_has ls 4 [(0, .ref (ad 0)), (1, .int x1), (2, .int x2)] → K4 x1 x2 v7 = some t → W p l e rm5_notes s m args below meth c H locs 0 0 (MQ below (va_Qi (fun (r9 : Int32) (_ : Unit) => r9 = t.1) (fun _ t9 => mB D cI cZ ad v0 v1 v2 v3 v4 v5 v6 t.2 v8 t9) (mA ad s.heap.size)) args s 0 0 (mA ad s.heap.size)) (F0 m 4 ls []))  {H : Heap} {locs : List Loc} (hH : mH D cI cZ ad v0 v1 v2 v3 v4 v5 v6 v7 v8 s H locs) {ls : Array Slot} (hl : lv_has ls 4 [(0, .ref (ad 0)), (1, .int x1), (2, .int x2), (3, .int x3)]) (hf : f5_notes_67 v1 K4 x1 x2 x3 v7 = some t) : W p l e rm5_notes s m args below meth c H locs 0 0 (MQ below (va_Qi (fun (r9 : Int32) (_ : Unit) => r9 = t.1) (fun _ t9 => mB D cI cZ ad v0 v1 v2 v3 v4 v5 v6 t.2 v8 t9) (mA ad s.heap.size)) args s 0 0 (mA ad s.heap.size)) (F0 m 67 ls []) := by
  obtain ⟨⟨hx, hb, hml, hown, hts⟩, hr, hlk, hK⟩ := id X
  replace hf : (gd x3 8 (f5_notes_77 v1 K4 (x1 + 1) x2 (upd v7 (Int32.toNatClampNeg x3) x2))) = some t := hf
  refine lv_aload_n hx hb dX5_notes_67 rfl (lv_at hl 0 rfl) ?_
  refine mr_get X hH.1 (k := 9) (v := .ref (ad 7)) (by decide) gfX5_29 rfl dX5_notes_68 ?_
  refine lv_iload_n hx hb dX5_notes_71 rfl (lv_at hl 3 rfl) ?_
  refine lv_iload_n hx hb dX5_notes_72 rfl (lv_at hl 2 rfl) ?_
  obtain ⟨hi1, hf⟩ := gd_o hf
  refine mr_st7 X hI hH hi1 dX5_notes_73 (fun H locs hH => ?_)
  refine lv_iinc (v := x1 + 1) (lv' := [(1, .int (x1 + 1)), (0, .ref (ad 0)), (2, .int x2), (3, .int x3)]) hx hb dX5_notes_74 hl (k := 1) rfl rfl (by decide) rfl (fun ls hl => ?_)
  exact w5_notes_77 X hI (K4 := K4) hK4 hH (lv_sub hl [1, 0, 2] rfl) hf
def f5_notes_27 (v1 : Nat → Int32) (K4 : Int32 → Int32 → (Nat → Int32) → (Option (Int32 × (Nat → Int32)))) : Nat → Int32 → Int32 → Int32 → (Nat → Int32) → Option (Int32 × (Nat → Int32))
  | 0, _, _, _, _ => none
  | n + 1, x1, x2, x3, v7 => if x3 ≤ 0 then (f5_notes_67 v1 K4 x1 x2 x3 v7) else (gd (x3 - 1) 8 (Option.bind (f5_isAhead_0 v1 x2 (v7 (Int32.toNatClampNeg (x3 - 1)))) (fun t3 => if t3 = 0 then (f5_notes_67 v1 K4 x1 x2 x3 v7) else (gd (x3 - 1) 8 (gd x3 8 ((f5_notes_27 v1 K4 n) x1 x2 (x3 + (-1)) (upd v7 (Int32.toNatClampNeg x3) (v7 (Int32.toNatClampNeg (x3 - 1))))))))))
set_option maxRecDepth 100000 in
set_option maxHeartbeats 4000000 in
theorem w5_notes_27 {p : Program} {l : Launch} {e : Env} {s : State} {m : MethodId} {args : Array Value} {below : List Frame} {meth : Method} {c : Code} {D : va_G} {cI cZ : ClassId} {ad : Nat → Nat} {v0 v1 v2 v3 v4 v5 v6 v8 : Nat → Int32} (X : mX D cI cZ p s m args meth c cX5_notes 4 (some .int)) (hI : mInj ad) {t : Int32 × (Nat → Int32)} {K4 : Int32 → Int32 → (Nat → Int32) → (Option (Int32 × (Nat → Int32)))} (hK4 : ∀ (x1 : Int32) (x2 : Int32) (v7 : Nat → Int32) (H : Heap) (locs : List Loc), mH D cI cZ ad v0 v1 v2 v3 v4 v5 v6 v7 v8 s H locs → ∀ (ls : Array Slot), lv_has ls 4 [(0, .ref (ad 0)), (1, .int x1), (2, .int x2)] → K4 x1 x2 v7 = some t → W p l e rm5_notes s m args below meth c H locs 0 0 (MQ below (va_Qi (fun (r9 : Int32) (_ : Unit) => r9 = t.1) (fun _ t9 => mB D cI cZ ad v0 v1 v2 v3 v4 v5 v6 t.2 v8 t9) (mA ad s.heap.size)) args s 0 0 (mA ad s.heap.size)) (F0 m 4 ls [])) :
    ∀ (n : Nat) (x1 : Int32) (x2 : Int32) (x3 : Int32) (v7 : Nat → Int32) (H : Heap) (locs : List Loc), mH D cI cZ ad v0 v1 v2 v3 v4 v5 v6 v7 v8 s H locs → ∀ (ls : Array Slot), lv_has ls 4 [(0, .ref (ad 0)), (1, .int x1), (2, .int x2), (3, .int x3)] → f5_notes_27 v1 K4 n x1 x2 x3 v7 = some t → W p l e rm5_notes s m args below meth c H locs 0 0 (MQ below (va_Qi (fun (r9 : Int32) (_ : Unit) => r9 = t.1) (fun _ t9 => mB D cI cZ ad v0 v1 v2 v3 v4 v5 v6 t.2 v8 t9) (mA ad s.heap.size)) args s 0 0 (mA ad s.heap.size)) (F0 m 27 ls []) := by
  obtain ⟨⟨hx, hb, hml, hown, hts⟩, hr, hlk, hK⟩ := id X
  intro n
  induction n with
  | zero =>
    intro x1 x2 x3 v7 H locs hH ls hl hf
    cases hf
  | succ n ih =>
    intro x1 x2 x3 v7 H locs hH ls hl hf
    replace hf : (if x3 ≤ 0 then (f5_notes_67 v1 K4 x1 x2 x3 v7) else (gd (x3 - 1) 8 (Option.bind (f5_isAhead_0 v1 x2 (v7 (Int32.toNatClampNeg (x3 - 1)))) (fun t3 => if t3 = 0 then (f5_notes_67 v1 K4 x1 x2 x3 v7) else (gd (x3 - 1) 8 (gd x3 8 ((f5_notes_27 v1 K4 n) x1 x2 (x3 + (-1)) (upd v7 (Int32.toNatClampNeg x3) (v7 (Int32.toNatClampNeg (x3 - 1))))))))))) = some t := hf
    refine lv_iload_n hx hb dX5_notes_27 rfl (lv_at hl 3 rfl) ?_
    refine lv_if_le (tgt := 67) hx hb dX5_notes_28 (by decide) (fun c1 => ?_) (fun c1 => ?_)
    · have hf := it_t c1 hf
      exact w5_notes_67 X hI (K4 := K4) hK4 hH (lv_sub hl [0, 1, 2, 3] rfl) hf
    · have hf := it_f c1 hf
      refine lv_aload_n hx hb dX5_notes_31 rfl (lv_at hl 0 rfl) ?_
      refine lv_iload_n hx hb dX5_notes_32 rfl (lv_at hl 2 rfl) ?_
      refine lv_aload_n hx hb dX5_notes_33 rfl (lv_at hl 0 rfl) ?_
      refine mr_get X hH.1 (k := 9) (v := .ref (ad 7)) (by decide) gfX5_29 rfl dX5_notes_34 ?_
      refine lv_iload_n hx hb dX5_notes_37 rfl (lv_at hl 3 rfl) ?_
      refine lv_iconst (v := 1) hx hb dX5_notes_38 (by decide) ?_
      refine lv_isub hx hb dX5_notes_39 ?_
      obtain ⟨hi2, hf⟩ := gd_o hf
      refine mr_ld7 X hH.1 hi2 dX5_notes_40 ?_
      obtain ⟨t3, ht3, hf⟩ := bd_o hf
      refine k5_isAhead X hH.1 hl.1 qX5_111 ⟨Nat.le_of_ble_eq_true rfl, Nat.le_of_ble_eq_true rfl⟩ ht3 (Nat.le_of_ble_eq_true rfl) dX5_notes_41 ⟨Nat.zero_le _, Nat.zero_le _⟩ ?_
      refine lv_if_eq (tgt := 67) hx hb dX5_notes_44 (by decide) (fun c4 => ?_) (fun c4 => ?_)
      · have hf := it_t c4 hf
        exact w5_notes_67 X hI (K4 := K4) hK4 hH (lv_sub hl [0, 1, 2, 3] rfl) hf
      · have hf := it_f c4 hf
        refine lv_aload_n hx hb dX5_notes_47 rfl (lv_at hl 0 rfl) ?_
        refine mr_get X hH.1 (k := 9) (v := .ref (ad 7)) (by decide) gfX5_29 rfl dX5_notes_48 ?_
        refine lv_iload_n hx hb dX5_notes_51 rfl (lv_at hl 3 rfl) ?_
        refine lv_aload_n hx hb dX5_notes_52 rfl (lv_at hl 0 rfl) ?_
        refine mr_get X hH.1 (k := 9) (v := .ref (ad 7)) (by decide) gfX5_29 rfl dX5_notes_53 ?_
        refine lv_iload_n hx hb dX5_notes_56 rfl (lv_at hl 3 rfl) ?_
        refine lv_iconst (v := 1) hx hb dX5_notes_57 (by decide) ?_
        refine lv_isub hx hb dX5_notes_58 ?_
        obtain ⟨hi5, hf⟩ := gd_o hf
        refine mr_ld7 X hH.1 hi5 dX5_notes_59 ?_
        obtain ⟨hi6, hf⟩ := gd_o hf
        refine mr_st7 X hI hH hi6 dX5_notes_60 (fun H locs hH => ?_)
        refine lv_iinc (v := x3 + (-1)) (lv' := [(3, .int (x3 + (-1))), (0, .ref (ad 0)), (1, .int x1), (2, .int x2)]) hx hb dX5_notes_61 hl (k := 3) rfl rfl (by decide) rfl (fun ls hl => ?_)
        refine lv_goto (tgt := 27) hx hb dX5_notes_64 (by decide) ?_
        exact ih _ _ _ _ _ _ hH _ (lv_sub hl [1, 2, 3, 0] rfl) hf
def f5_notes_4 (v1 : Nat → Int32) : Nat → Int32 → Int32 → (Nat → Int32) → Option (Int32 × (Nat → Int32))
  | 0, _, _, _ => none
  | n + 1, x1, x2, v7 => gd 162 171 (if (v1 (Int32.toNatClampNeg 162)) ≤ x2 then (some (x1, v7)) else (Option.bind (f5_isIn_0 v1 x2 1) (fun t3 => if t3 = 0 then (f5_notes_77 v1 (f5_notes_4 v1 n) x1 x2 v7) else (f5_notes_27 v1 (f5_notes_4 v1 n) fu x1 x2 x1 v7))))
set_option maxRecDepth 100000 in
set_option maxHeartbeats 4000000 in
theorem w5_notes_4 {p : Program} {l : Launch} {e : Env} {s : State} {m : MethodId} {args : Array Value} {below : List Frame} {meth : Method} {c : Code} {D : va_G} {cI cZ : ClassId} {ad : Nat → Nat} {v0 v1 v2 v3 v4 v5 v6 v8 : Nat → Int32} (X : mX D cI cZ p s m args meth c cX5_notes 4 (some .int)) (hI : mInj ad) {t : Int32 × (Nat → Int32)} :
    ∀ (n : Nat) (x1 : Int32) (x2 : Int32) (v7 : Nat → Int32) (H : Heap) (locs : List Loc), mH D cI cZ ad v0 v1 v2 v3 v4 v5 v6 v7 v8 s H locs → ∀ (ls : Array Slot), lv_has ls 4 [(0, .ref (ad 0)), (1, .int x1), (2, .int x2)] → f5_notes_4 v1 n x1 x2 v7 = some t → W p l e rm5_notes s m args below meth c H locs 0 0 (MQ below (va_Qi (fun (r9 : Int32) (_ : Unit) => r9 = t.1) (fun _ t9 => mB D cI cZ ad v0 v1 v2 v3 v4 v5 v6 t.2 v8 t9) (mA ad s.heap.size)) args s 0 0 (mA ad s.heap.size)) (F0 m 4 ls []) := by
  obtain ⟨⟨hx, hb, hml, hown, hts⟩, hr, hlk, hK⟩ := id X
  intro n
  induction n with
  | zero =>
    intro x1 x2 v7 H locs hH ls hl hf
    cases hf
  | succ n ih =>
    intro x1 x2 v7 H locs hH ls hl hf
    replace hf : (gd 162 171 (if (v1 (Int32.toNatClampNeg 162)) ≤ x2 then (some (x1, v7)) else (Option.bind (f5_isIn_0 v1 x2 1) (fun t3 => if t3 = 0 then (f5_notes_77 v1 (f5_notes_4 v1 n) x1 x2 v7) else (f5_notes_27 v1 (f5_notes_4 v1 n) fu x1 x2 x1 v7))))) = some t := hf
    refine lv_iload_n hx hb dX5_notes_4 rfl (lv_at hl 2 rfl) ?_
    refine lv_aload_n hx hb dX5_notes_5 rfl (lv_at hl 0 rfl) ?_
    refine mr_get X hH.1 (k := 0) (v := .ref (ad 1)) (by decide) gfX5_7 rfl dX5_notes_6 ?_
    refine lv_sipush (v := 162) hx hb dX5_notes_9 (by decide) ?_
    obtain ⟨hi1, hf⟩ := gd_o hf
    refine mr_ld1 X hH.1 hi1 dX5_notes_12 ?_
    refine lv_icmp_ge (tgt := 83) hx hb dX5_notes_13 (by decide) (fun c2 => ?_) (fun c2 => ?_)
    · have hf := it_t c2 hf
      refine lv_iload_n hx hb dX5_notes_83 rfl (lv_at hl 1 rfl) ?_
      obtain rfl := so_i hf
      exact mr_iw X hH rfl dX5_notes_84
    · have hf := it_f c2 hf
      refine lv_aload_n hx hb dX5_notes_16 rfl (lv_at hl 0 rfl) ?_
      refine lv_iload_n hx hb dX5_notes_17 rfl (lv_at hl 2 rfl) ?_
      refine lv_iconst (v := 1) hx hb dX5_notes_18 (by decide) ?_
      obtain ⟨t3, ht3, hf⟩ := bd_o hf
      refine k5_isIn X hH.1 hl.1 qX5_67 ⟨Nat.le_of_ble_eq_true rfl, Nat.le_of_ble_eq_true rfl⟩ ht3 (Nat.le_of_ble_eq_true rfl) dX5_notes_19 ⟨Nat.zero_le _, Nat.zero_le _⟩ ?_
      refine lv_if_eq (tgt := 77) hx hb dX5_notes_22 (by decide) (fun c4 => ?_) (fun c4 => ?_)
      · have hf := it_t c4 hf
        exact w5_notes_77 X hI (K4 := (f5_notes_4 v1 n)) ih hH (lv_sub hl [0, 1, 2] rfl) hf
      · have hf := it_f c4 hf
        refine lv_iload_n hx hb dX5_notes_25 rfl (lv_at hl 1 rfl) ?_
        refine lv_istore_n (lv' := [(3, .int x1), (0, .ref (ad 0)), (1, .int x1), (2, .int x2)]) hx hb dX5_notes_26 rfl hl (by decide) rfl (fun ls hl => ?_)
        exact w5_notes_27 X hI (K4 := (f5_notes_4 v1 n)) ih _ _ _ _ _ _ _ hH _ (lv_sub hl [1, 2, 3, 0] rfl) hf
def f5_notes_0 (v1 : Nat → Int32) (v7 : Nat → Int32) : Option (Int32 × (Nat → Int32)) := f5_notes_4 v1 fu 0 0 v7
set_option maxRecDepth 100000 in
set_option maxHeartbeats 4000000 in
theorem w5_notes_0 {p : Program} {l : Launch} {e : Env} {s : State} {m : MethodId} {args : Array Value} {below : List Frame} {meth : Method} {c : Code} {D : va_G} {cI cZ : ClassId} {ad : Nat → Nat} {v0 v1 v2 v3 v4 v5 v6 v7 v8 : Nat → Int32} (X : mX D cI cZ p s m args meth c cX5_notes 4 (some .int)) (hI : mInj ad) {t : Int32 × (Nat → Int32)}  {H : Heap} {locs : List Loc} (hH : mH D cI cZ ad v0 v1 v2 v3 v4 v5 v6 v7 v8 s H locs) {ls : Array Slot} (hl : lv_has ls 4 [(0, .ref (ad 0))]) (hf : f5_notes_0 v1 v7 = some t) : W p l e rm5_notes s m args below meth c H locs 0 0 (MQ below (va_Qi (fun (r9 : Int32) (_ : Unit) => r9 = t.1) (fun _ t9 => mB D cI cZ ad v0 v1 v2 v3 v4 v5 v6 t.2 v8 t9) (mA ad s.heap.size)) args s 0 0 (mA ad s.heap.size)) (F0 m 0 ls []) := by
  obtain ⟨⟨hx, hb, hml, hown, hts⟩, hr, hlk, hK⟩ := id X
  replace hf : (f5_notes_4 v1 fu 0 0 v7) = some t := hf
  refine lv_iconst (v := 0) hx hb dX5_notes_0 (by decide) ?_
  refine lv_istore_n (lv' := [(1, .int 0), (0, .ref (ad 0))]) hx hb dX5_notes_1 rfl hl (by decide) rfl (fun ls hl => ?_)
  refine lv_iconst (v := 0) hx hb dX5_notes_2 (by decide) ?_
  refine lv_istore_n (lv' := [(2, .int 0), (1, .int 0), (0, .ref (ad 0))]) hx hb dX5_notes_3 rfl hl (by decide) rfl (fun ls hl => ?_)
  exact w5_notes_4 X hI _ _ _ _ _ _ hH _ (lv_sub hl [2, 1, 0] rfl) hf
set_option maxRecDepth 100000 in
set_option maxHeartbeats 4000000 in
theorem c5_notes (l : Launch) {D : va_G} {cI cZ : ClassId} {ad : Nat → Nat} {v0 v1 v2 v3 v4 v5 v6 v7 v8 : Nat → Int32} (hI : mInj ad) (sz : Nat) {t : Int32 × (Nat → Int32)} (hf : f5_notes_0 v1 v7 = some t) : Met l yX5_notes uX5_notes rm5_notes (va_Pc [.ref (ad 0)] (fun U => U.heap.size = sz ∧ mB D cI cZ ad v0 v1 v2 v3 v4 v5 v6 v7 v8 U)) (va_Qi (fun (r9 : Int32) (_ : Unit) => r9 = t.1) (fun _ t9 => mB D cI cZ ad v0 v1 v2 v3 v4 v5 v6 t.2 v8 t9) (mA ad sz)) 0 0 (mA ad sz) := by
  refine Met.ofW (cc := cX5_notes) (maxL := 4) (ret := (some .int)) (by decide) rfl ?_
  intro p e s m args below meth c s₁ B hml hv
  obtain ⟨rfl, hsz, hP, hK⟩ := hv
  subst hsz
  have X : mX D cI cZ p s m ([.ref (ad 0)] : List Value).toArray meth c cX5_notes 4 (some .int) := ⟨⟨B.exec, B.bytes, hml, findClass_of_methodNamed B.named, fun w h => atoms_spec (ws := uX5_notes) B.pre w (List.mem_cons_of_mem _ h)⟩, B.returns, B.notSynchronized, hK⟩
  have hl := lv_entry ([.ref (ad 0)]) (n := 4) (Nat.le_of_ble_eq_true rfl)
  rw [lg_entry_eq]
  generalize (lg_sl ([.ref (ad 0)]) ++ List.replicate (4 - (lg_sl ([.ref (ad 0)])).length) Slot.unset).toArray = ls at hl ⊢
  have hl : lv_has ls 4 [(0, .ref (ad 0))] := hl
  exact w5_notes_0 X hI ⟨hP, va_S.rf⟩ (lv_sub hl [0] rfl) hf
set_option maxRecDepth 100000 in
set_option maxHeartbeats 4000000 in
theorem k5_notes {p : Program} {l : Launch} {e : Env} {R : Room} {s : State} {m : MethodId} {args : Array Value} {below : List Frame} {meth : Method} {c : Code} {cc : ByteArray} {nL : Nat} {ret : Option FieldType} {D : va_G} {cI cZ : ClassId} {ad : Nat → Nat} {v0 v1 v2 v3 v4 v5 v6 v7 v8 : Nat → Int32} {H : Heap} {locs : List Loc} {cells slots : Nat} {Q : State → Prop} {pc : Nat} {ls : Array Slot} {rest : List Value} (X : mX D cI cZ p s m args meth c cc nL ret) (hI : mInj ad) (hH : mH D cI cZ ad v0 v1 v2 v3 v4 v5 v6 v7 v8 s H locs) (hls : ls.size = nL) {index : Nat} (hG : GoodIn gw (wsV RX5 index RX5 yX5_notes uX5_notes)) (hR : rm5_notes.frames + 1 ≤ R.frames ∧ 8 + (4 + 11) + rm5_notes.locals ≤ R.locals) {t : Int32 × (Nat → Int32)} (hf : f5_notes_0 v1 v7 = some t) (hrest : (rest.map fun v => v.category).sum ≤ 8) (hdg : decode cc pc = .ok (.invokevirtual index, 3)) (hc : cells ≤ R.cells ∧ slots ≤ R.slots) (kk : ∀ (H1 : Heap) (locs1 : List Loc), mH D cI cZ ad v0 v1 v2 v3 v4 v5 v6 t.2 v8 s H1 locs1 → W p l e R s m args below meth c H1 locs1 cells slots Q (F0 m (pc + 3) ls (.int t.1 :: rest))) : W p l e R s m args below meth c H locs cells slots Q (F0 m pc ls (.ref (ad 0) :: rest)) := by
  have hA : ∀ q, mA ad H.size q → mA ad s.heap.size q := fun q h => h.elim Or.inl (fun h => Or.inr (Nat.le_trans hH.2.1 h))
  refine va_calli (va_runV (As := []) (rest := rest) X.1 (c5_notes l hI H.size hf) (cwV 0 X.1.2.2.2.2 hG rfl rfl rfl (by decide +kernel) hR) ⟨mBs_bl, va_recv X.2.2.2 hH.1 (ci := 5) (q0 := 0) rfl rfl, fun U hU hW => ⟨rfl, by rw [hU], by rw [hU]; exact hH.1, va_K.moved hW.alike X.2.2.2⟩⟩ rfl rfl hls rfl (lv_room hrest) hdg hc) hH.2 (fun q _ h => hA q h) hA (fun r9 u t9 H1 locs1 ht hvm hw hB hz1 hk1 hS => ?_)
  subst hw
  exact kk H1 locs1 ⟨by rw [← ht]; exact hB.1, hS⟩
/-! OreRailwayModel.before(I)I -/
def rm5_before : Room := { frames := 2, cells := 0, slots := 0, locals := 45 }
def f5_before_84 (v1 : Nat → Int32) (K4 : Int32 → Int32 → Int32 → Option (Int32)) (x1 : Int32) (x3 : Int32) (y0 : Int32) : Option (Int32) := K4 x1 y0 (x3 + 1)
set_option maxRecDepth 100000 in
set_option maxHeartbeats 4000000 in
theorem w5_before_84 {p : Program} {l : Launch} {e : Env} {s : State} {m : MethodId} {args : Array Value} {below : List Frame} {meth : Method} {c : Code} {D : va_G} {cI cZ : ClassId} {ad : Nat → Nat} {v0 v1 v2 v3 v4 v5 v6 v7 v8 : Nat → Int32} (X : mX D cI cZ p s m args meth c cX5_before 5 (some .int)) (hP : va_P D vwCl (mwW cI cZ ad v0 v1 v2 v3 v4 v5 v6 v7 v8) s.heap) {x1 : Int32} {x3 : Int32} {y0 : Int32} {t : Int32} {K4 : Int32 → Int32 → Int32 → Option (Int32)} (hK4 : ∀ (x1 : Int32) (x2 : Int32) (x3 : Int32) (ls : Array Slot), lv_has ls 5 [(0, .ref (ad 0)), (1, .int x1), (2, .int x2), (3, .int x3)] → K4 x1 x2 x3 = some t → W p l e rm5_before s m args below meth c s.heap [] 0 0 (MQ below (QcRead t) args s 0 0 (fun _ => False)) (F0 m 4 ls []))  {ls : Array Slot} (hl : lv_has ls 5 [(0, .ref (ad 0)), (1, .int x1), (3, .int x3)]) (hf : f5_before_84 v1 K4 x1 x3 y0 = some t) : W p l e rm5_before s m args below meth c s.heap [] 0 0 (MQ below (QcRead t) args s 0 0 (fun _ => False)) (F0 m 84 ls [.int y0]) := by
  obtain ⟨⟨hx, hb, hml, hown, hts⟩, hr, hlk, hK⟩ := id X
  replace hf : (K4 x1 y0 (x3 + 1)) = some t := hf
  refine lv_istore_n (lv' := [(2, .int y0), (0, .ref (ad 0)), (1, .int x1), (3, .int x3)]) hx hb dX5_before_84 rfl hl (by decide) rfl (fun ls hl => ?_)
  refine lv_iinc (v := x3 + 1) (lv' := [(3, .int (x3 + 1)), (2, .int y0), (0, .ref (ad 0)), (1, .int x1)]) hx hb dX5_before_85 hl (k := 3) rfl rfl (by decide) rfl (fun ls hl => ?_)
  refine lv_goto (tgt := 4) hx hb dX5_before_88 (by decide) ?_
  exact hK4 _ _ _ _ (lv_sub hl [2, 3, 1, 0] rfl) hf
def f5_before_83 (v1 : Nat → Int32) (K4 : Int32 → Int32 → Int32 → Option (Int32)) (x1 : Int32) (x2 : Int32) (x3 : Int32) : Option (Int32) := f5_before_84 v1 K4 x1 x3 x2
set_option maxRecDepth 100000 in
set_option maxHeartbeats 4000000 in
theorem w5_before_83 {p : Program} {l : Launch} {e : Env} {s : State} {m : MethodId} {args : Array Value} {below : List Frame} {meth : Method} {c : Code} {D : va_G} {cI cZ : ClassId} {ad : Nat → Nat} {v0 v1 v2 v3 v4 v5 v6 v7 v8 : Nat → Int32} (X : mX D cI cZ p s m args meth c cX5_before 5 (some .int)) (hP : va_P D vwCl (mwW cI cZ ad v0 v1 v2 v3 v4 v5 v6 v7 v8) s.heap) {x1 : Int32} {x2 : Int32} {x3 : Int32} {t : Int32} {K4 : Int32 → Int32 → Int32 → Option (Int32)} (hK4 : ∀ (x1 : Int32) (x2 : Int32) (x3 : Int32) (ls : Array Slot), lv_has ls 5 [(0, .ref (ad 0)), (1, .int x1), (2, .int x2), (3, .int x3)] → K4 x1 x2 x3 = some t → W p l e rm5_before s m args below meth c s.heap [] 0 0 (MQ below (QcRead t) args s 0 0 (fun _ => False)) (F0 m 4 ls []))  {ls : Array Slot} (hl : lv_has ls 5 [(0, .ref (ad 0)), (1, .int x1), (2, .int x2), (3, .int x3)]) (hf : f5_before_83 v1 K4 x1 x2 x3 = some t) : W p l e rm5_before s m args below meth c s.heap [] 0 0 (MQ below (QcRead t) args s 0 0 (fun _ => False)) (F0 m 83 ls []) := by
  obtain ⟨⟨hx, hb, hml, hown, hts⟩, hr, hlk, hK⟩ := id X
  replace hf : (f5_before_84 v1 K4 x1 x3 x2) = some t := hf
  refine lv_iload_n hx hb dX5_before_83 rfl (lv_at hl 2 rfl) ?_
  exact w5_before_84 X hP (K4 := K4) hK4  (lv_sub hl [0, 1, 3] rfl) hf
def f5_before_79 (v1 : Nat → Int32) (K4 : Int32 → Int32 → Int32 → Option (Int32)) (x1 : Int32) (x3 : Int32) : Option (Int32) := f5_before_84 v1 K4 x1 x3 x3
set_option maxRecDepth 100000 in
set_option maxHeartbeats 4000000 in
theorem w5_before_79 {p : Program} {l : Launch} {e : Env} {s : State} {m : MethodId} {args : Array Value} {below : List Frame} {meth : Method} {c : Code} {D : va_G} {cI cZ : ClassId} {ad : Nat → Nat} {v0 v1 v2 v3 v4 v5 v6 v7 v8 : Nat → Int32} (X : mX D cI cZ p s m args meth c cX5_before 5 (some .int)) (hP : va_P D vwCl (mwW cI cZ ad v0 v1 v2 v3 v4 v5 v6 v7 v8) s.heap) {x1 : Int32} {x3 : Int32} {t : Int32} {K4 : Int32 → Int32 → Int32 → Option (Int32)} (hK4 : ∀ (x1 : Int32) (x2 : Int32) (x3 : Int32) (ls : Array Slot), lv_has ls 5 [(0, .ref (ad 0)), (1, .int x1), (2, .int x2), (3, .int x3)] → K4 x1 x2 x3 = some t → W p l e rm5_before s m args below meth c s.heap [] 0 0 (MQ below (QcRead t) args s 0 0 (fun _ => False)) (F0 m 4 ls []))  {ls : Array Slot} (hl : lv_has ls 5 [(0, .ref (ad 0)), (1, .int x1), (3, .int x3)]) (hf : f5_before_79 v1 K4 x1 x3 = some t) : W p l e rm5_before s m args below meth c s.heap [] 0 0 (MQ below (QcRead t) args s 0 0 (fun _ => False)) (F0 m 79 ls []) := by
  obtain ⟨⟨hx, hb, hml, hown, hts⟩, hr, hlk, hK⟩ := id X
  replace hf : (f5_before_84 v1 K4 x1 x3 x3) = some t := hf
  refine lv_iload_n hx hb dX5_before_79 rfl (lv_at hl 2 rfl) ?_
  refine lv_goto (tgt := 84) hx hb dX5_before_80 (by decide) ?_
  exact w5_before_84 X hP (K4 := K4) hK4  (lv_sub hl [0, 1, 2] rfl) hf
def f5_before_44 (v1 : Nat → Int32) (K4 : Int32 → Int32 → Int32 → Option (Int32)) (x1 : Int32) (x2 : Int32) (x3 : Int32) (y0 : Int32) : Option (Int32) := if y0 = 0 then (f5_before_83 v1 K4 x1 x2 x3) else (if x2 = ((-1)) then (f5_before_79 v1 K4 x1 x3) else (gd (e5_of x3 4) 171 (gd (e5_of x2 4) 171 (if (v1 (Int32.toNatClampNeg (e5_of x2 4))) < (v1 (Int32.toNatClampNeg (e5_of x3 4))) then (f5_before_83 v1 K4 x1 x2 x3) else (f5_before_79 v1 K4 x1 x3)))))
set_option maxRecDepth 100000 in
set_option maxHeartbeats 4000000 in
theorem w5_before_44 {p : Program} {l : Launch} {e : Env} {s : State} {m : MethodId} {args : Array Value} {below : List Frame} {meth : Method} {c : Code} {D : va_G} {cI cZ : ClassId} {ad : Nat → Nat} {v0 v1 v2 v3 v4 v5 v6 v7 v8 : Nat → Int32} (X : mX D cI cZ p s m args meth c cX5_before 5 (some .int)) (hP : va_P D vwCl (mwW cI cZ ad v0 v1 v2 v3 v4 v5 v6 v7 v8) s.heap) {x1 : Int32} {x2 : Int32} {x3 : Int32} {y0 : Int32} {t : Int32} {K4 : Int32 → Int32 → Int32 → Option (Int32)} (hK4 : ∀ (x1 : Int32) (x2 : Int32) (x3 : Int32) (ls : Array Slot), lv_has ls 5 [(0, .ref (ad 0)), (1, .int x1), (2, .int x2), (3, .int x3)] → K4 x1 x2 x3 = some t → W p l e rm5_before s m args below meth c s.heap [] 0 0 (MQ below (QcRead t) args s 0 0 (fun _ => False)) (F0 m 4 ls []))  {ls : Array Slot} (hl : lv_has ls 5 [(0, .ref (ad 0)), (1, .int x1), (2, .int x2), (3, .int x3)]) (hf : f5_before_44 v1 K4 x1 x2 x3 y0 = some t) : W p l e rm5_before s m args below meth c s.heap [] 0 0 (MQ below (QcRead t) args s 0 0 (fun _ => False)) (F0 m 44 ls [.int y0]) := by
  obtain ⟨⟨hx, hb, hml, hown, hts⟩, hr, hlk, hK⟩ := id X
  replace hf : (if y0 = 0 then (f5_before_83 v1 K4 x1 x2 x3) else (if x2 = ((-1)) then (f5_before_79 v1 K4 x1 x3) else (gd (e5_of x3 4) 171 (gd (e5_of x2 4) 171 (if (v1 (Int32.toNatClampNeg (e5_of x2 4))) < (v1 (Int32.toNatClampNeg (e5_of x3 4))) then (f5_before_83 v1 K4 x1 x2 x3) else (f5_before_79 v1 K4 x1 x3)))))) = some t := hf
  refine lv_istore (lv' := [(4, .int y0), (0, .ref (ad 0)), (1, .int x1), (2, .int x2), (3, .int x3)]) hx hb dX5_before_44 hl (by decide) rfl (fun ls hl => ?_)
  refine lv_iload hx hb dX5_before_46 (lv_at hl 0 rfl) ?_
  refine lv_if_eq (tgt := 83) hx hb dX5_before_48 (by decide) (fun c1 => ?_) (fun c1 => ?_)
  · have hf := it_t c1 hf
    exact w5_before_83 X hP (K4 := K4) hK4  (lv_sub hl [1, 2, 3, 4] rfl) hf
  · have hf := it_f c1 hf
    refine lv_iload_n hx hb dX5_before_51 rfl (lv_at hl 3 rfl) ?_
    refine lv_iconst (v := (-1)) hx hb dX5_before_52 (by decide) ?_
    refine lv_icmp_eq (tgt := 79) hx hb dX5_before_53 (by decide) (fun c2 => ?_) (fun c2 => ?_)
    · have hf := it_t c2 hf
      exact w5_before_79 X hP (K4 := K4) hK4  (lv_sub hl [1, 2, 4] rfl) hf
    · have hf := it_f c2 hf
      refine lv_aload_n hx hb dX5_before_56 rfl (lv_at hl 1 rfl) ?_
      refine mr_get X hP (k := 0) (v := .ref (ad 1)) (by decide) gfX5_7 rfl dX5_before_57 ?_
      refine lv_iload_n hx hb dX5_before_60 rfl (lv_at hl 4 rfl) ?_
      refine lv_iconst (v := 4) hx hb dX5_before_61 (by decide) ?_
      refine k5_of X.1 hl.1 qX5_43 ⟨Nat.le_of_ble_eq_true rfl, Nat.le_of_ble_eq_true rfl⟩ (Nat.le_of_ble_eq_true rfl) dX5_before_62 ⟨Nat.zero_le _, Nat.zero_le _⟩ ?_
      obtain ⟨hi3, hf⟩ := gd_o hf
      refine mr_ld1 X hP hi3 dX5_before_65 ?_
      refine lv_aload_n hx hb dX5_before_66 rfl (lv_at hl 1 rfl) ?_
      refine mr_get X hP (k := 0) (v := .ref (ad 1)) (by decide) gfX5_7 rfl dX5_before_67 ?_
      refine lv_iload_n hx hb dX5_before_70 rfl (lv_at hl 3 rfl) ?_
      refine lv_iconst (v := 4) hx hb dX5_before_71 (by decide) ?_
      refine k5_of X.1 hl.1 qX5_43 ⟨Nat.le_of_ble_eq_true rfl, Nat.le_of_ble_eq_true rfl⟩ (Nat.le_of_ble_eq_true rfl) dX5_before_72 ⟨Nat.zero_le _, Nat.zero_le _⟩ ?_
      obtain ⟨hi4, hf⟩ := gd_o hf
      refine mr_ld1 X hP hi4 dX5_before_75 ?_
      refine lv_icmp_gt (tgt := 83) hx hb dX5_before_76 (by decide) (fun c5 => ?_) (fun c5 => ?_)
      · have hf := it_t c5 hf
        exact w5_before_83 X hP (K4 := K4) hK4  (lv_sub hl [1, 2, 3, 4] rfl) hf
      · have hf := it_f c5 hf
        exact w5_before_79 X hP (K4 := K4) hK4  (lv_sub hl [1, 2, 4] rfl) hf
def f5_before_43 (v1 : Nat → Int32) (K4 : Int32 → Int32 → Int32 → Option (Int32)) (x1 : Int32) (x2 : Int32) (x3 : Int32) : Option (Int32) := f5_before_44 v1 K4 x1 x2 x3 0
set_option maxRecDepth 100000 in
set_option maxHeartbeats 4000000 in
theorem w5_before_43 {p : Program} {l : Launch} {e : Env} {s : State} {m : MethodId} {args : Array Value} {below : List Frame} {meth : Method} {c : Code} {D : va_G} {cI cZ : ClassId} {ad : Nat → Nat} {v0 v1 v2 v3 v4 v5 v6 v7 v8 : Nat → Int32} (X : mX D cI cZ p s m args meth c cX5_before 5 (some .int)) (hP : va_P D vwCl (mwW cI cZ ad v0 v1 v2 v3 v4 v5 v6 v7 v8) s.heap) {x1 : Int32} {x2 : Int32} {x3 : Int32} {t : Int32} {K4 : Int32 → Int32 → Int32 → Option (Int32)} (hK4 : ∀ (x1 : Int32) (x2 : Int32) (x3 : Int32) (ls : Array Slot), lv_has ls 5 [(0, .ref (ad 0)), (1, .int x1), (2, .int x2), (3, .int x3)] → K4 x1 x2 x3 = some t → W p l e rm5_before s m args below meth c s.heap [] 0 0 (MQ below (QcRead t) args s 0 0 (fun _ => False)) (F0 m 4 ls []))  {ls : Array Slot} (hl : lv_has ls 5 [(0, .ref (ad 0)), (1, .int x1), (2, .int x2), (3, .int x3)]) (hf : f5_before_43 v1 K4 x1 x2 x3 = some t) : W p l e rm5_before s m args below meth c s.heap [] 0 0 (MQ below (QcRead t) args s 0 0 (fun _ => False)) (F0 m 43 ls []) := by
  obtain ⟨⟨hx, hb, hml, hown, hts⟩, hr, hlk, hK⟩ := id X
  replace hf : (f5_before_44 v1 K4 x1 x2 x3 0) = some t := hf
  refine lv_iconst (v := 0) hx hb dX5_before_43 (by decide) ?_
  exact w5_before_44 X hP (K4 := K4) hK4  (lv_sub hl [0, 1, 2, 3] rfl) hf
def f5_before_4 (v1 : Nat → Int32) : Nat → Int32 → Int32 → Int32 → Option (Int32)
  | 0, _, _, _ => none
  | n + 1, x1, x2, x3 => gd 162 171 (if (v1 (Int32.toNatClampNeg 162)) ≤ x3 then (some x2) else (if x3 = x1 then (f5_before_43 v1 (f5_before_4 v1 n) x1 x2 x3) else (Option.bind (f5_isIn_0 v1 x3 1) (fun t4 => if t4 = 0 then (f5_before_43 v1 (f5_before_4 v1 n) x1 x2 x3) else (Option.bind (f5_isAhead_0 v1 x3 x1) (fun t6 => if t6 = 0 then (f5_before_43 v1 (f5_before_4 v1 n) x1 x2 x3) else (f5_before_44 v1 (f5_before_4 v1 n) x1 x2 x3 1)))))))
set_option maxRecDepth 100000 in
set_option maxHeartbeats 4000000 in
theorem w5_before_4 {p : Program} {l : Launch} {e : Env} {s : State} {m : MethodId} {args : Array Value} {below : List Frame} {meth : Method} {c : Code} {D : va_G} {cI cZ : ClassId} {ad : Nat → Nat} {v0 v1 v2 v3 v4 v5 v6 v7 v8 : Nat → Int32} (X : mX D cI cZ p s m args meth c cX5_before 5 (some .int)) (hP : va_P D vwCl (mwW cI cZ ad v0 v1 v2 v3 v4 v5 v6 v7 v8) s.heap) {t : Int32} :
    ∀ (n : Nat) (x1 : Int32) (x2 : Int32) (x3 : Int32) (ls : Array Slot), lv_has ls 5 [(0, .ref (ad 0)), (1, .int x1), (2, .int x2), (3, .int x3)] → f5_before_4 v1 n x1 x2 x3 = some t → W p l e rm5_before s m args below meth c s.heap [] 0 0 (MQ below (QcRead t) args s 0 0 (fun _ => False)) (F0 m 4 ls []) := by
  obtain ⟨⟨hx, hb, hml, hown, hts⟩, hr, hlk, hK⟩ := id X
  intro n
  induction n with
  | zero =>
    intro x1 x2 x3 ls hl hf
    cases hf
  | succ n ih =>
    intro x1 x2 x3 ls hl hf
    replace hf : (gd 162 171 (if (v1 (Int32.toNatClampNeg 162)) ≤ x3 then (some x2) else (if x3 = x1 then (f5_before_43 v1 (f5_before_4 v1 n) x1 x2 x3) else (Option.bind (f5_isIn_0 v1 x3 1) (fun t4 => if t4 = 0 then (f5_before_43 v1 (f5_before_4 v1 n) x1 x2 x3) else (Option.bind (f5_isAhead_0 v1 x3 x1) (fun t6 => if t6 = 0 then (f5_before_43 v1 (f5_before_4 v1 n) x1 x2 x3) else (f5_before_44 v1 (f5_before_4 v1 n) x1 x2 x3 1)))))))) = some t := hf
    refine lv_iload_n hx hb dX5_before_4 rfl (lv_at hl 3 rfl) ?_
    refine lv_aload_n hx hb dX5_before_5 rfl (lv_at hl 0 rfl) ?_
    refine mr_get X hP (k := 0) (v := .ref (ad 1)) (by decide) gfX5_7 rfl dX5_before_6 ?_
    refine lv_sipush (v := 162) hx hb dX5_before_9 (by decide) ?_
    obtain ⟨hi1, hf⟩ := gd_o hf
    refine mr_ld1 X hP hi1 dX5_before_12 ?_
    refine lv_icmp_ge (tgt := 91) hx hb dX5_before_13 (by decide) (fun c2 => ?_) (fun c2 => ?_)
    · have hf := it_t c2 hf
      refine lv_iload_n hx hb dX5_before_91 rfl (lv_at hl 2 rfl) ?_
      obtain rfl := so_i hf
      exact rd_i hx hb hr hlk dX5_before_92
    · have hf := it_f c2 hf
      refine lv_iload_n hx hb dX5_before_16 rfl (lv_at hl 3 rfl) ?_
      refine lv_iload_n hx hb dX5_before_17 rfl (lv_at hl 1 rfl) ?_
      refine lv_icmp_eq (tgt := 43) hx hb dX5_before_18 (by decide) (fun c3 => ?_) (fun c3 => ?_)
      · have hf := it_t c3 hf
        exact w5_before_43 X hP (K4 := (f5_before_4 v1 n)) ih  (lv_sub hl [0, 1, 2, 3] rfl) hf
      · have hf := it_f c3 hf
        refine lv_aload_n hx hb dX5_before_21 rfl (lv_at hl 0 rfl) ?_
        refine lv_iload_n hx hb dX5_before_22 rfl (lv_at hl 3 rfl) ?_
        refine lv_iconst (v := 1) hx hb dX5_before_23 (by decide) ?_
        obtain ⟨t4, ht4, hf⟩ := bd_o hf
        refine k5_isIn X hP hl.1 qX5_67 ⟨Nat.le_of_ble_eq_true rfl, Nat.le_of_ble_eq_true rfl⟩ ht4 (Nat.le_of_ble_eq_true rfl) dX5_before_24 ⟨Nat.zero_le _, Nat.zero_le _⟩ ?_
        refine lv_if_eq (tgt := 43) hx hb dX5_before_27 (by decide) (fun c5 => ?_) (fun c5 => ?_)
        · have hf := it_t c5 hf
          exact w5_before_43 X hP (K4 := (f5_before_4 v1 n)) ih  (lv_sub hl [0, 1, 2, 3] rfl) hf
        · have hf := it_f c5 hf
          refine lv_aload_n hx hb dX5_before_30 rfl (lv_at hl 0 rfl) ?_
          refine lv_iload_n hx hb dX5_before_31 rfl (lv_at hl 3 rfl) ?_
          refine lv_iload_n hx hb dX5_before_32 rfl (lv_at hl 1 rfl) ?_
          obtain ⟨t6, ht6, hf⟩ := bd_o hf
          refine k5_isAhead X hP hl.1 qX5_111 ⟨Nat.le_of_ble_eq_true rfl, Nat.le_of_ble_eq_true rfl⟩ ht6 (Nat.le_of_ble_eq_true rfl) dX5_before_33 ⟨Nat.zero_le _, Nat.zero_le _⟩ ?_
          refine lv_if_eq (tgt := 43) hx hb dX5_before_36 (by decide) (fun c7 => ?_) (fun c7 => ?_)
          · have hf := it_t c7 hf
            exact w5_before_43 X hP (K4 := (f5_before_4 v1 n)) ih  (lv_sub hl [0, 1, 2, 3] rfl) hf
          · have hf := it_f c7 hf
            refine lv_iconst (v := 1) hx hb dX5_before_39 (by decide) ?_
            refine lv_goto (tgt := 44) hx hb dX5_before_40 (by decide) ?_
            exact w5_before_44 X hP (K4 := (f5_before_4 v1 n)) ih  (lv_sub hl [0, 1, 2, 3] rfl) hf
def f5_before_0 (v1 : Nat → Int32) (x1 : Int32) : Option (Int32) := f5_before_4 v1 fu x1 ((-1)) 0
set_option maxRecDepth 100000 in
set_option maxHeartbeats 4000000 in
theorem w5_before_0 {p : Program} {l : Launch} {e : Env} {s : State} {m : MethodId} {args : Array Value} {below : List Frame} {meth : Method} {c : Code} {D : va_G} {cI cZ : ClassId} {ad : Nat → Nat} {v0 v1 v2 v3 v4 v5 v6 v7 v8 : Nat → Int32} (X : mX D cI cZ p s m args meth c cX5_before 5 (some .int)) (hP : va_P D vwCl (mwW cI cZ ad v0 v1 v2 v3 v4 v5 v6 v7 v8) s.heap) {x1 : Int32} {t : Int32}  {ls : Array Slot} (hl : lv_has ls 5 [(0, .ref (ad 0)), (1, .int x1)]) (hf : f5_before_0 v1 x1 = some t) : W p l e rm5_before s m args below meth c s.heap [] 0 0 (MQ below (QcRead t) args s 0 0 (fun _ => False)) (F0 m 0 ls []) := by
  obtain ⟨⟨hx, hb, hml, hown, hts⟩, hr, hlk, hK⟩ := id X
  replace hf : (f5_before_4 v1 fu x1 ((-1)) 0) = some t := hf
  refine lv_iconst (v := (-1)) hx hb dX5_before_0 (by decide) ?_
  refine lv_istore_n (lv' := [(2, .int ((-1))), (0, .ref (ad 0)), (1, .int x1)]) hx hb dX5_before_1 rfl hl (by decide) rfl (fun ls hl => ?_)
  refine lv_iconst (v := 0) hx hb dX5_before_2 (by decide) ?_
  refine lv_istore_n (lv' := [(3, .int 0), (2, .int ((-1))), (0, .ref (ad 0)), (1, .int x1)]) hx hb dX5_before_3 rfl hl (by decide) rfl (fun ls hl => ?_)
  exact w5_before_4 X hP _ _ _ _ _ (lv_sub hl [2, 3, 1, 0] rfl) hf
set_option maxRecDepth 100000 in
set_option maxHeartbeats 4000000 in
theorem c5_before (l : Launch) {D : va_G} {cI cZ : ClassId} {ad : Nat → Nat} {v0 v1 v2 v3 v4 v5 v6 v7 v8 : Nat → Int32} (x1 : Int32) {t : Int32} (hf : f5_before_0 v1 x1 = some t) : Met l yX5_before uX5_before rm5_before (va_Pc [.ref (ad 0), .int x1] (mB D cI cZ ad v0 v1 v2 v3 v4 v5 v6 v7 v8)) (QcRead t) 0 0 (fun _ => False) := by
  refine Met.ofW (cc := cX5_before) (maxL := 5) (ret := (some .int)) (by decide) rfl ?_
  intro p e s m args below meth c s₁ B hml hv
  obtain ⟨rfl, hP, hK⟩ := hv
  have X : mX D cI cZ p s m ([.ref (ad 0), .int x1] : List Value).toArray meth c cX5_before 5 (some .int) := ⟨⟨B.exec, B.bytes, hml, findClass_of_methodNamed B.named, fun w h => atoms_spec (ws := uX5_before) B.pre w (List.mem_cons_of_mem _ h)⟩, B.returns, B.notSynchronized, hK⟩
  have hl := lv_entry ([.ref (ad 0), .int x1]) (n := 5) (Nat.le_of_ble_eq_true rfl)
  rw [lg_entry_eq]
  generalize (lg_sl ([.ref (ad 0), .int x1]) ++ List.replicate (5 - (lg_sl ([.ref (ad 0), .int x1])).length) Slot.unset).toArray = ls at hl ⊢
  have hl : lv_has ls 5 [(0, .ref (ad 0)), (1, .int x1)] := hl
  exact w5_before_0 X hP (lv_sub hl [0, 1] rfl) hf
set_option maxRecDepth 100000 in
set_option maxHeartbeats 4000000 in
theorem k5_before {p : Program} {l : Launch} {e : Env} {R : Room} {s : State} {m : MethodId} {args : Array Value} {below : List Frame} {meth : Method} {c : Code} {cc : ByteArray} {nL : Nat} {ret : Option FieldType} {D : va_G} {cI cZ : ClassId} {ad : Nat → Nat} {v0 v1 v2 v3 v4 v5 v6 v7 v8 : Nat → Int32} {H : Heap} {locs : List Loc} {cells slots : Nat} {Q : State → Prop} {pc : Nat} {ls : Array Slot} {rest : List Value} (X : mX D cI cZ p s m args meth c cc nL ret) (hP : va_P D vwCl (mwW cI cZ ad v0 v1 v2 v3 v4 v5 v6 v7 v8) H) (hls : ls.size = nL) {index : Nat} (hG : GoodIn gw (wsV RX5 index RX5 yX5_before uX5_before)) (hR : rm5_before.frames + 1 ≤ R.frames ∧ 8 + (5 + 11) + rm5_before.locals ≤ R.locals) {x1 : Int32} {t : Int32} (hf : f5_before_0 v1 x1 = some t) (hrest : (rest.map fun v => v.category).sum ≤ 8) (hdg : decode cc pc = .ok (.invokevirtual index, 3)) (hc : cells ≤ R.cells ∧ slots ≤ R.slots) (kk : W p l e R s m args below meth c H locs cells slots Q (F0 m (pc + 3) ls (.int t :: rest))) : W p l e R s m args below meth c H locs cells slots Q (F0 m pc ls (.int x1 :: .ref (ad 0) :: rest)) :=
  W.callR (W.runV (As := [.int x1]) X.1 (c5_before l x1 hf) (cwV 1 X.1.2.2.2.2 hG rfl rfl rfl (by decide +kernel) hR) ⟨mB_bl, va_recv X.2.2.2 hP (ci := 5) (q0 := 0) rfl rfl, fun U hU hW => ⟨rfl, by rw [hU]; exact hP, va_K.moved hW.alike X.2.2.2⟩⟩ rfl rfl hls rfl (lv_room hrest) hdg hc) kk
/-! OreRailwayModel.within(III)I -/
def rm5_within : Room := { frames := 0, cells := 0, slots := 0, locals := 0 }
def f5_within_19 (y0 : Int32) : Option (Int32) := some y0
set_option maxRecDepth 100000 in
set_option maxHeartbeats 4000000 in
theorem w5_within_19 {p : Program} {l : Launch} {e : Env} {s : State} {m : MethodId} {args : Array Value} {below : List Frame} {meth : Method} {c : Code} (X : sX p s m args meth c cX5_within 3 RX5 (some .int)) {y0 : Int32} {t : Int32}  {ls : Array Slot} (hl : lv_has ls 3 []) (hf : f5_within_19 y0 = some t) : W p l e rm5_within s m args below meth c s.heap [] 0 0 (MQ below (QcRead t) args s 0 0 (fun _ => False)) (F0 m 19 ls [.int y0]) := by
  obtain ⟨⟨hx, hb, hml, hown, hts⟩, hr, hlk⟩ := id X
  replace hf : (some y0) = some t := hf
  obtain rfl := so_i hf
  exact rd_i hx hb hr hlk dX5_within_19
def f5_within_0 (x0 : Int32) (x1 : Int32) (x2 : Int32) : Option (Int32) := if x1 ≤ x0 then (if x0 ≤ x2 then (f5_within_19 x0) else (f5_within_19 x2)) else (f5_within_19 x1)
set_option maxRecDepth 100000 in
set_option maxHeartbeats 4000000 in
theorem w5_within_0 {p : Program} {l : Launch} {e : Env} {s : State} {m : MethodId} {args : Array Value} {below : List Frame} {meth : Method} {c : Code} (X : sX p s m args meth c cX5_within 3 RX5 (some .int)) {x0 : Int32} {x1 : Int32} {x2 : Int32} {t : Int32}  {ls : Array Slot} (hl : lv_has ls 3 [(0, .int x0), (1, .int x1), (2, .int x2)]) (hf : f5_within_0 x0 x1 x2 = some t) : W p l e rm5_within s m args below meth c s.heap [] 0 0 (MQ below (QcRead t) args s 0 0 (fun _ => False)) (F0 m 0 ls []) := by
  obtain ⟨⟨hx, hb, hml, hown, hts⟩, hr, hlk⟩ := id X
  replace hf : (if x1 ≤ x0 then (if x0 ≤ x2 then (f5_within_19 x0) else (f5_within_19 x2)) else (f5_within_19 x1)) = some t := hf
  refine lv_iload_n hx hb dX5_within_0 rfl (lv_at hl 0 rfl) ?_
  refine lv_iload_n hx hb dX5_within_1 rfl (lv_at hl 1 rfl) ?_
  refine lv_icmp_ge (tgt := 9) hx hb dX5_within_2 (by decide) (fun c1 => ?_) (fun c1 => ?_)
  · have hf := it_t c1 hf
    refine lv_iload_n hx hb dX5_within_9 rfl (lv_at hl 0 rfl) ?_
    refine lv_iload_n hx hb dX5_within_10 rfl (lv_at hl 2 rfl) ?_
    refine lv_icmp_le (tgt := 18) hx hb dX5_within_11 (by decide) (fun c2 => ?_) (fun c2 => ?_)
    · have hf := it_t c2 hf
      refine lv_iload_n hx hb dX5_within_18 rfl (lv_at hl 0 rfl) ?_
      exact w5_within_19 X  (lv_sub hl [] rfl) hf
    · have hf := it_f c2 hf
      refine lv_iload_n hx hb dX5_within_14 rfl (lv_at hl 2 rfl) ?_
      refine lv_goto (tgt := 19) hx hb dX5_within_15 (by decide) ?_
      exact w5_within_19 X  (lv_sub hl [] rfl) hf
  · have hf := it_f c1 hf
    refine lv_iload_n hx hb dX5_within_5 rfl (lv_at hl 1 rfl) ?_
    refine lv_goto (tgt := 19) hx hb dX5_within_6 (by decide) ?_
    exact w5_within_19 X  (lv_sub hl [] rfl) hf
set_option maxRecDepth 100000 in
set_option maxHeartbeats 4000000 in
theorem c5_within (l : Launch) (x0 : Int32) (x1 : Int32) (x2 : Int32) {t : Int32} (hf : f5_within_0 x0 x1 x2 = some t) : Met l yX5_within uX5_within rm5_within (fun v _ => v = ([.int x0, .int x1, .int x2] : List Value).toArray) (QcRead t) 0 0 (fun _ => False) := by
  refine Met.ofW (cc := cX5_within) (maxL := 3) (ret := (some .int)) (by decide) rfl ?_
  intro p e s m args below meth c s₁ B hml hv
  obtain rfl := hv
  have X : sX p s m ([.int x0, .int x1, .int x2] : List Value).toArray meth c cX5_within 3 RX5 (some .int) := ⟨⟨B.exec, B.bytes, hml, findClass_of_methodNamed B.named, fun w h => atoms_spec (ws := uX5_within) B.pre w (List.mem_cons_of_mem _ h)⟩, B.returns, B.notSynchronized⟩
  have hl := lv_entry ([.int x0, .int x1, .int x2]) (n := 3) (Nat.le_of_ble_eq_true rfl)
  rw [lg_entry_eq]
  generalize (lg_sl ([.int x0, .int x1, .int x2]) ++ List.replicate (3 - (lg_sl ([.int x0, .int x1, .int x2])).length) Slot.unset).toArray = ls at hl ⊢
  have hl : lv_has ls 3 [(0, .int x0), (1, .int x1), (2, .int x2)] := hl
  exact w5_within_0 X (lv_sub hl [0, 1, 2] rfl) hf
set_option maxRecDepth 100000 in
set_option maxHeartbeats 4000000 in
theorem k5_within {p : Program} {l : Launch} {e : Env} {R : Room} {s : State} {m : MethodId} {args : Array Value} {below : List Frame} {meth : Method} {c : Code} {cc : ByteArray} {nL : Nat} {own : String} {H : Heap} {locs : List Loc} {cells slots : Nat} {Q : State → Prop} {pc : Nat} {ls : Array Slot} {rest : List Value} (S : CallFix p m c cc nL s args gw own) (hls : ls.size = nL) {index : Nat} (hG : GoodIn gw (va_wsS own index yX5_within uX5_within)) (hR : rm5_within.frames + 1 ≤ R.frames ∧ 8 + (3 + 11) + rm5_within.locals ≤ R.locals) {x0 : Int32} {x1 : Int32} {x2 : Int32} {t : Int32} (hf : f5_within_0 x0 x1 x2 = some t) (hrest : (rest.map fun v => v.category).sum ≤ 8) (hdg : decode cc pc = .ok (.invokestatic index, 3)) (hc : cells ≤ R.cells ∧ slots ≤ R.slots) (kk : W p l e R s m args below meth c H locs cells slots Q (F0 m (pc + 3) ls (.int t :: rest))) : W p l e R s m args below meth c H locs cells slots Q (F0 m pc ls (.int x2 :: .int x1 :: .int x0 :: rest)) :=
  W.callR (W.runS S (c5_within l x0 x1 x2 hf) (va_cwS 3 S.2.2.2.2 hG rfl rfl rfl (by decide +kernel) hR) preEq rfl rfl hls rfl (lv_room hrest) hdg hc) kk
/-! OreRailwayModel.arrives(II)V -/
def rm5_arrives : Room := { frames := 1, cells := 0, slots := 0, locals := 21 }
def f5_arrives_129 (v1 : Nat → Int32) : Option ((Nat → Int32)) := some (v1)
set_option maxRecDepth 100000 in
set_option maxHeartbeats 4000000 in
theorem w5_arrives_129 {p : Program} {l : Launch} {e : Env} {s : State} {m : MethodId} {args : Array Value} {below : List Frame} {meth : Method} {c : Code} {D : va_G} {cI cZ : ClassId} {ad : Nat → Nat} {v0 v1 v2 v3 v4 v5 v6 v7 v8 : Nat → Int32} (X : mX D cI cZ p s m args meth c cX5_arrives 5 none) (hI : mInj ad) {t : (Nat → Int32)}  {H : Heap} {locs : List Loc} (hH : mH D cI cZ ad v0 v1 v2 v3 v4 v5 v6 v7 v8 s H locs) {ls : Array Slot} (hl : lv_has ls 5 []) (hf : f5_arrives_129 v1 = some t) : W p l e rm5_arrives s m args below meth c H locs 0 0 (MQ below (va_Qv (fun (_ : Unit) => True) (fun _ t9 => mB D cI cZ ad v0 t v2 v3 v4 v5 v6 v7 v8 t9) (mA ad s.heap.size)) args s 0 0 (mA ad s.heap.size)) (F0 m 129 ls []) := by
  obtain ⟨⟨hx, hb, hml, hown, hts⟩, hr, hlk, hK⟩ := id X
  replace hf : (some (v1)) = some t := hf
  obtain rfl := so_i hf
  exact mr_vw X hH rfl dX5_arrives_129
def f5_arrives_118 (x1 : Int32) (v1 : Nat → Int32) : Option ((Nat → Int32)) := gd (e5_of x1 2) 171 (f5_arrives_129 (upd v1 (Int32.toNatClampNeg (e5_of x1 2)) 0))
set_option maxRecDepth 100000 in
set_option maxHeartbeats 4000000 in
theorem w5_arrives_118 {p : Program} {l : Launch} {e : Env} {s : State} {m : MethodId} {args : Array Value} {below : List Frame} {meth : Method} {c : Code} {D : va_G} {cI cZ : ClassId} {ad : Nat → Nat} {v0 v1 v2 v3 v4 v5 v6 v7 v8 : Nat → Int32} (X : mX D cI cZ p s m args meth c cX5_arrives 5 none) (hI : mInj ad) {x1 : Int32} {t : (Nat → Int32)}  {H : Heap} {locs : List Loc} (hH : mH D cI cZ ad v0 v1 v2 v3 v4 v5 v6 v7 v8 s H locs) {ls : Array Slot} (hl : lv_has ls 5 [(0, .ref (ad 0)), (1, .int x1)]) (hf : f5_arrives_118 x1 v1 = some t) : W p l e rm5_arrives s m args below meth c H locs 0 0 (MQ below (va_Qv (fun (_ : Unit) => True) (fun _ t9 => mB D cI cZ ad v0 t v2 v3 v4 v5 v6 v7 v8 t9) (mA ad s.heap.size)) args s 0 0 (mA ad s.heap.size)) (F0 m 118 ls []) := by
  obtain ⟨⟨hx, hb, hml, hown, hts⟩, hr, hlk, hK⟩ := id X
  replace hf : (gd (e5_of x1 2) 171 (f5_arrives_129 (upd v1 (Int32.toNatClampNeg (e5_of x1 2)) 0))) = some t := hf
  refine lv_aload_n hx hb dX5_arrives_118 rfl (lv_at hl 0 rfl) ?_
  refine mr_get X hH.1 (k := 0) (v := .ref (ad 1)) (by decide) gfX5_7 rfl dX5_arrives_119 ?_
  refine lv_iload_n hx hb dX5_arrives_122 rfl (lv_at hl 1 rfl) ?_
  refine lv_iconst (v := 2) hx hb dX5_arrives_123 (by decide) ?_
  refine k5_of X.1 hl.1 qX5_43 ⟨Nat.le_of_ble_eq_true rfl, Nat.le_of_ble_eq_true rfl⟩ (Nat.le_of_ble_eq_true rfl) dX5_arrives_124 ⟨Nat.zero_le _, Nat.zero_le _⟩ ?_
  refine lv_iconst (v := 0) hx hb dX5_arrives_127 (by decide) ?_
  obtain ⟨hi1, hf⟩ := gd_o hf
  refine mr_st1 X hI hH hi1 dX5_arrives_128 (fun H locs hH => ?_)
  exact w5_arrives_129 X hI hH (lv_sub hl [] rfl) hf
def f5_arrives_107 (x1 : Int32) (v1 : Nat → Int32) : Option ((Nat → Int32)) := gd (e5_of x1 3) 171 (f5_arrives_118 x1 (upd v1 (Int32.toNatClampNeg (e5_of x1 3)) 0))
set_option maxRecDepth 100000 in
set_option maxHeartbeats 4000000 in
theorem w5_arrives_107 {p : Program} {l : Launch} {e : Env} {s : State} {m : MethodId} {args : Array Value} {below : List Frame} {meth : Method} {c : Code} {D : va_G} {cI cZ : ClassId} {ad : Nat → Nat} {v0 v1 v2 v3 v4 v5 v6 v7 v8 : Nat → Int32} (X : mX D cI cZ p s m args meth c cX5_arrives 5 none) (hI : mInj ad) {x1 : Int32} {t : (Nat → Int32)}  {H : Heap} {locs : List Loc} (hH : mH D cI cZ ad v0 v1 v2 v3 v4 v5 v6 v7 v8 s H locs) {ls : Array Slot} (hl : lv_has ls 5 [(0, .ref (ad 0)), (1, .int x1)]) (hf : f5_arrives_107 x1 v1 = some t) : W p l e rm5_arrives s m args below meth c H locs 0 0 (MQ below (va_Qv (fun (_ : Unit) => True) (fun _ t9 => mB D cI cZ ad v0 t v2 v3 v4 v5 v6 v7 v8 t9) (mA ad s.heap.size)) args s 0 0 (mA ad s.heap.size)) (F0 m 107 ls []) := by
  obtain ⟨⟨hx, hb, hml, hown, hts⟩, hr, hlk, hK⟩ := id X
  replace hf : (gd (e5_of x1 3) 171 (f5_arrives_118 x1 (upd v1 (Int32.toNatClampNeg (e5_of x1 3)) 0))) = some t := hf
  refine lv_aload_n hx hb dX5_arrives_107 rfl (lv_at hl 0 rfl) ?_
  refine mr_get X hH.1 (k := 0) (v := .ref (ad 1)) (by decide) gfX5_7 rfl dX5_arrives_108 ?_
  refine lv_iload_n hx hb dX5_arrives_111 rfl (lv_at hl 1 rfl) ?_
  refine lv_iconst (v := 3) hx hb dX5_arrives_112 (by decide) ?_
  refine k5_of X.1 hl.1 qX5_43 ⟨Nat.le_of_ble_eq_true rfl, Nat.le_of_ble_eq_true rfl⟩ (Nat.le_of_ble_eq_true rfl) dX5_arrives_113 ⟨Nat.zero_le _, Nat.zero_le _⟩ ?_
  refine lv_iconst (v := 0) hx hb dX5_arrives_116 (by decide) ?_
  obtain ⟨hi1, hf⟩ := gd_o hf
  refine mr_st1 X hI hH hi1 dX5_arrives_117 (fun H locs hH => ?_)
  exact w5_arrives_118 X hI hH (lv_sub hl [0, 1] rfl) hf
def f5_arrives_96 (x1 : Int32) (v1 : Nat → Int32) : Option ((Nat → Int32)) := gd (e5_of x1 1) 171 (f5_arrives_107 x1 (upd v1 (Int32.toNatClampNeg (e5_of x1 1)) 0))
set_option maxRecDepth 100000 in
set_option maxHeartbeats 4000000 in
theorem w5_arrives_96 {p : Program} {l : Launch} {e : Env} {s : State} {m : MethodId} {args : Array Value} {below : List Frame} {meth : Method} {c : Code} {D : va_G} {cI cZ : ClassId} {ad : Nat → Nat} {v0 v1 v2 v3 v4 v5 v6 v7 v8 : Nat → Int32} (X : mX D cI cZ p s m args meth c cX5_arrives 5 none) (hI : mInj ad) {x1 : Int32} {t : (Nat → Int32)}  {H : Heap} {locs : List Loc} (hH : mH D cI cZ ad v0 v1 v2 v3 v4 v5 v6 v7 v8 s H locs) {ls : Array Slot} (hl : lv_has ls 5 [(0, .ref (ad 0)), (1, .int x1)]) (hf : f5_arrives_96 x1 v1 = some t) : W p l e rm5_arrives s m args below meth c H locs 0 0 (MQ below (va_Qv (fun (_ : Unit) => True) (fun _ t9 => mB D cI cZ ad v0 t v2 v3 v4 v5 v6 v7 v8 t9) (mA ad s.heap.size)) args s 0 0 (mA ad s.heap.size)) (F0 m 96 ls []) := by
  obtain ⟨⟨hx, hb, hml, hown, hts⟩, hr, hlk, hK⟩ := id X
  replace hf : (gd (e5_of x1 1) 171 (f5_arrives_107 x1 (upd v1 (Int32.toNatClampNeg (e5_of x1 1)) 0))) = some t := hf
  refine lv_aload_n hx hb dX5_arrives_96 rfl (lv_at hl 0 rfl) ?_
  refine mr_get X hH.1 (k := 0) (v := .ref (ad 1)) (by decide) gfX5_7 rfl dX5_arrives_97 ?_
  refine lv_iload_n hx hb dX5_arrives_100 rfl (lv_at hl 1 rfl) ?_
  refine lv_iconst (v := 1) hx hb dX5_arrives_101 (by decide) ?_
  refine k5_of X.1 hl.1 qX5_43 ⟨Nat.le_of_ble_eq_true rfl, Nat.le_of_ble_eq_true rfl⟩ (Nat.le_of_ble_eq_true rfl) dX5_arrives_102 ⟨Nat.zero_le _, Nat.zero_le _⟩ ?_
  refine lv_iconst (v := 0) hx hb dX5_arrives_105 (by decide) ?_
  obtain ⟨hi1, hf⟩ := gd_o hf
  refine mr_st1 X hI hH hi1 dX5_arrives_106 (fun H locs hH => ?_)
  exact w5_arrives_107 X hI hH (lv_sub hl [0, 1] rfl) hf
def f5_arrives_78 (x1 : Int32) (x3 : Int32) (x4 : Int32) (v1 : Nat → Int32) : Option ((Nat → Int32)) := gd (e5_of x1 6) 171 (gd (e5_of x1 6) 171 (f5_arrives_96 x1 (upd v1 (Int32.toNatClampNeg (e5_of x1 6)) ((v1 (Int32.toNatClampNeg (e5_of x1 6))) + (x3 - x4)))))
set_option maxRecDepth 100000 in
set_option maxHeartbeats 4000000 in
theorem w5_arrives_78 {p : Program} {l : Launch} {e : Env} {s : State} {m : MethodId} {args : Array Value} {below : List Frame} {meth : Method} {c : Code} {D : va_G} {cI cZ : ClassId} {ad : Nat → Nat} {v0 v1 v2 v3 v4 v5 v6 v7 v8 : Nat → Int32} (X : mX D cI cZ p s m args meth c cX5_arrives 5 none) (hI : mInj ad) {x1 : Int32} {x3 : Int32} {x4 : Int32} {t : (Nat → Int32)}  {H : Heap} {locs : List Loc} (hH : mH D cI cZ ad v0 v1 v2 v3 v4 v5 v6 v7 v8 s H locs) {ls : Array Slot} (hl : lv_has ls 5 [(0, .ref (ad 0)), (1, .int x1), (3, .int x3), (4, .int x4)]) (hf : f5_arrives_78 x1 x3 x4 v1 = some t) : W p l e rm5_arrives s m args below meth c H locs 0 0 (MQ below (va_Qv (fun (_ : Unit) => True) (fun _ t9 => mB D cI cZ ad v0 t v2 v3 v4 v5 v6 v7 v8 t9) (mA ad s.heap.size)) args s 0 0 (mA ad s.heap.size)) (F0 m 78 ls []) := by
  obtain ⟨⟨hx, hb, hml, hown, hts⟩, hr, hlk, hK⟩ := id X
  replace hf : (gd (e5_of x1 6) 171 (gd (e5_of x1 6) 171 (f5_arrives_96 x1 (upd v1 (Int32.toNatClampNeg (e5_of x1 6)) ((v1 (Int32.toNatClampNeg (e5_of x1 6))) + (x3 - x4)))))) = some t := hf
  refine lv_aload_n hx hb dX5_arrives_78 rfl (lv_at hl 0 rfl) ?_
  refine mr_get X hH.1 (k := 0) (v := .ref (ad 1)) (by decide) gfX5_7 rfl dX5_arrives_79 ?_
  refine lv_iload_n hx hb dX5_arrives_82 rfl (lv_at hl 1 rfl) ?_
  refine lv_bipush (v := 6) hx hb dX5_arrives_83 (by decide) ?_
  refine k5_of X.1 hl.1 qX5_43 ⟨Nat.le_of_ble_eq_true rfl, Nat.le_of_ble_eq_true rfl⟩ (Nat.le_of_ble_eq_true rfl) dX5_arrives_85 ⟨Nat.zero_le _, Nat.zero_le _⟩ ?_
  refine lv_dup2_11 hx hb dX5_arrives_88 rfl rfl ?_
  obtain ⟨hi1, hf⟩ := gd_o hf
  refine mr_ld1 X hH.1 hi1 dX5_arrives_89 ?_
  refine lv_iload_n hx hb dX5_arrives_90 rfl (lv_at hl 2 rfl) ?_
  refine lv_iload hx hb dX5_arrives_91 (lv_at hl 3 rfl) ?_
  refine lv_isub hx hb dX5_arrives_93 ?_
  refine lv_iadd hx hb dX5_arrives_94 ?_
  obtain ⟨hi2, hf⟩ := gd_o hf
  refine mr_st1 X hI hH hi2 dX5_arrives_95 (fun H locs hH => ?_)
  exact w5_arrives_96 X hI hH (lv_sub hl [0, 1] rfl) hf
def f5_arrives_63 (x1 : Int32) (x3 : Int32) (x4 : Int32) (v1 : Nat → Int32) : Option ((Nat → Int32)) := gd 165 171 (gd 165 171 (f5_arrives_78 x1 x3 x4 (upd v1 (Int32.toNatClampNeg 165) ((v1 (Int32.toNatClampNeg 165)) + (x3 - x4)))))
set_option maxRecDepth 100000 in
set_option maxHeartbeats 4000000 in
theorem w5_arrives_63 {p : Program} {l : Launch} {e : Env} {s : State} {m : MethodId} {args : Array Value} {below : List Frame} {meth : Method} {c : Code} {D : va_G} {cI cZ : ClassId} {ad : Nat → Nat} {v0 v1 v2 v3 v4 v5 v6 v7 v8 : Nat → Int32} (X : mX D cI cZ p s m args meth c cX5_arrives 5 none) (hI : mInj ad) {x1 : Int32} {x3 : Int32} {x4 : Int32} {t : (Nat → Int32)}  {H : Heap} {locs : List Loc} (hH : mH D cI cZ ad v0 v1 v2 v3 v4 v5 v6 v7 v8 s H locs) {ls : Array Slot} (hl : lv_has ls 5 [(0, .ref (ad 0)), (1, .int x1), (3, .int x3), (4, .int x4)]) (hf : f5_arrives_63 x1 x3 x4 v1 = some t) : W p l e rm5_arrives s m args below meth c H locs 0 0 (MQ below (va_Qv (fun (_ : Unit) => True) (fun _ t9 => mB D cI cZ ad v0 t v2 v3 v4 v5 v6 v7 v8 t9) (mA ad s.heap.size)) args s 0 0 (mA ad s.heap.size)) (F0 m 63 ls []) := by
  obtain ⟨⟨hx, hb, hml, hown, hts⟩, hr, hlk, hK⟩ := id X
  replace hf : (gd 165 171 (gd 165 171 (f5_arrives_78 x1 x3 x4 (upd v1 (Int32.toNatClampNeg 165) ((v1 (Int32.toNatClampNeg 165)) + (x3 - x4)))))) = some t := hf
  refine lv_aload_n hx hb dX5_arrives_63 rfl (lv_at hl 0 rfl) ?_
  refine mr_get X hH.1 (k := 0) (v := .ref (ad 1)) (by decide) gfX5_7 rfl dX5_arrives_64 ?_
  refine lv_sipush (v := 165) hx hb dX5_arrives_67 (by decide) ?_
  refine lv_dup2_11 hx hb dX5_arrives_70 rfl rfl ?_
  obtain ⟨hi1, hf⟩ := gd_o hf
  refine mr_ld1 X hH.1 hi1 dX5_arrives_71 ?_
  refine lv_iload_n hx hb dX5_arrives_72 rfl (lv_at hl 2 rfl) ?_
  refine lv_iload hx hb dX5_arrives_73 (lv_at hl 3 rfl) ?_
  refine lv_isub hx hb dX5_arrives_75 ?_
  refine lv_iadd hx hb dX5_arrives_76 ?_
  obtain ⟨hi2, hf⟩ := gd_o hf
  refine mr_st1 X hI hH hi2 dX5_arrives_77 (fun H locs hH => ?_)
  exact w5_arrives_78 X hI hH (lv_sub hl [0, 1, 2, 3] rfl) hf
def f5_arrives_24 (x1 : Int32) (x3 : Int32) (y0 : Int32) (v1 : Nat → Int32) : Option ((Nat → Int32)) := gd (e5_of x1 4) 171 (gd (e5_of x1 0) 171 (gd 166 171 (gd 166 171 (f5_arrives_63 x1 x3 y0 (upd (upd (upd v1 (Int32.toNatClampNeg (e5_of x1 4)) 300) (Int32.toNatClampNeg (e5_of x1 0)) 2) (Int32.toNatClampNeg 166) (((upd (upd v1 (Int32.toNatClampNeg (e5_of x1 4)) 300) (Int32.toNatClampNeg (e5_of x1 0)) 2) (Int32.toNatClampNeg 166)) + y0))))))
set_option maxRecDepth 100000 in
set_option maxHeartbeats 4000000 in
theorem w5_arrives_24 {p : Program} {l : Launch} {e : Env} {s : State} {m : MethodId} {args : Array Value} {below : List Frame} {meth : Method} {c : Code} {D : va_G} {cI cZ : ClassId} {ad : Nat → Nat} {v0 v1 v2 v3 v4 v5 v6 v7 v8 : Nat → Int32} (X : mX D cI cZ p s m args meth c cX5_arrives 5 none) (hI : mInj ad) {x1 : Int32} {x3 : Int32} {y0 : Int32} {t : (Nat → Int32)}  {H : Heap} {locs : List Loc} (hH : mH D cI cZ ad v0 v1 v2 v3 v4 v5 v6 v7 v8 s H locs) {ls : Array Slot} (hl : lv_has ls 5 [(0, .ref (ad 0)), (1, .int x1), (3, .int x3)]) (hf : f5_arrives_24 x1 x3 y0 v1 = some t) : W p l e rm5_arrives s m args below meth c H locs 0 0 (MQ below (va_Qv (fun (_ : Unit) => True) (fun _ t9 => mB D cI cZ ad v0 t v2 v3 v4 v5 v6 v7 v8 t9) (mA ad s.heap.size)) args s 0 0 (mA ad s.heap.size)) (F0 m 24 ls [.int y0]) := by
  obtain ⟨⟨hx, hb, hml, hown, hts⟩, hr, hlk, hK⟩ := id X
  replace hf : (gd (e5_of x1 4) 171 (gd (e5_of x1 0) 171 (gd 166 171 (gd 166 171 (f5_arrives_63 x1 x3 y0 (upd (upd (upd v1 (Int32.toNatClampNeg (e5_of x1 4)) 300) (Int32.toNatClampNeg (e5_of x1 0)) 2) (Int32.toNatClampNeg 166) (((upd (upd v1 (Int32.toNatClampNeg (e5_of x1 4)) 300) (Int32.toNatClampNeg (e5_of x1 0)) 2) (Int32.toNatClampNeg 166)) + y0))))))) = some t := hf
  refine lv_istore (lv' := [(4, .int y0), (0, .ref (ad 0)), (1, .int x1), (3, .int x3)]) hx hb dX5_arrives_24 hl (by decide) rfl (fun ls hl => ?_)
  refine lv_aload_n hx hb dX5_arrives_26 rfl (lv_at hl 1 rfl) ?_
  refine mr_get X hH.1 (k := 0) (v := .ref (ad 1)) (by decide) gfX5_7 rfl dX5_arrives_27 ?_
  refine lv_iload_n hx hb dX5_arrives_30 rfl (lv_at hl 2 rfl) ?_
  refine lv_iconst (v := 4) hx hb dX5_arrives_31 (by decide) ?_
  refine k5_of X.1 hl.1 qX5_43 ⟨Nat.le_of_ble_eq_true rfl, Nat.le_of_ble_eq_true rfl⟩ (Nat.le_of_ble_eq_true rfl) dX5_arrives_32 ⟨Nat.zero_le _, Nat.zero_le _⟩ ?_
  refine lv_sipush (v := 300) hx hb dX5_arrives_35 (by decide) ?_
  obtain ⟨hi1, hf⟩ := gd_o hf
  refine mr_st1 X hI hH hi1 dX5_arrives_38 (fun H locs hH => ?_)
  refine lv_aload_n hx hb dX5_arrives_39 rfl (lv_at hl 1 rfl) ?_
  refine mr_get X hH.1 (k := 0) (v := .ref (ad 1)) (by decide) gfX5_7 rfl dX5_arrives_40 ?_
  refine lv_iload_n hx hb dX5_arrives_43 rfl (lv_at hl 2 rfl) ?_
  refine lv_iconst (v := 0) hx hb dX5_arrives_44 (by decide) ?_
  refine k5_of X.1 hl.1 qX5_43 ⟨Nat.le_of_ble_eq_true rfl, Nat.le_of_ble_eq_true rfl⟩ (Nat.le_of_ble_eq_true rfl) dX5_arrives_45 ⟨Nat.zero_le _, Nat.zero_le _⟩ ?_
  refine lv_iconst (v := 2) hx hb dX5_arrives_48 (by decide) ?_
  obtain ⟨hi2, hf⟩ := gd_o hf
  refine mr_st1 X hI hH hi2 dX5_arrives_49 (fun H locs hH => ?_)
  refine lv_aload_n hx hb dX5_arrives_50 rfl (lv_at hl 1 rfl) ?_
  refine mr_get X hH.1 (k := 0) (v := .ref (ad 1)) (by decide) gfX5_7 rfl dX5_arrives_51 ?_
  refine lv_sipush (v := 166) hx hb dX5_arrives_54 (by decide) ?_
  refine lv_dup2_11 hx hb dX5_arrives_57 rfl rfl ?_
  obtain ⟨hi3, hf⟩ := gd_o hf
  refine mr_ld1 X hH.1 hi3 dX5_arrives_58 ?_
  refine lv_iload hx hb dX5_arrives_59 (lv_at hl 0 rfl) ?_
  refine lv_iadd hx hb dX5_arrives_61 ?_
  obtain ⟨hi4, hf⟩ := gd_o hf
  refine mr_st1 X hI hH hi4 dX5_arrives_62 (fun H locs hH => ?_)
  exact w5_arrives_63 X hI hH (lv_sub hl [1, 2, 3, 0] rfl) hf
def f5_arrives_0 (x1 : Int32) (x2 : Int32) (v1 : Nat → Int32) : Option ((Nat → Int32)) := gd (e5_of x1 1) 171 (if x2 ≤ 25 then (f5_arrives_24 x1 (v1 (Int32.toNatClampNeg (e5_of x1 1))) 0 v1) else (f5_arrives_24 x1 (v1 (Int32.toNatClampNeg (e5_of x1 1))) ((v1 (Int32.toNatClampNeg (e5_of x1 1))) / 2) v1))
set_option maxRecDepth 100000 in
set_option maxHeartbeats 4000000 in
theorem w5_arrives_0 {p : Program} {l : Launch} {e : Env} {s : State} {m : MethodId} {args : Array Value} {below : List Frame} {meth : Method} {c : Code} {D : va_G} {cI cZ : ClassId} {ad : Nat → Nat} {v0 v1 v2 v3 v4 v5 v6 v7 v8 : Nat → Int32} (X : mX D cI cZ p s m args meth c cX5_arrives 5 none) (hI : mInj ad) {x1 : Int32} {x2 : Int32} {t : (Nat → Int32)}  {H : Heap} {locs : List Loc} (hH : mH D cI cZ ad v0 v1 v2 v3 v4 v5 v6 v7 v8 s H locs) {ls : Array Slot} (hl : lv_has ls 5 [(0, .ref (ad 0)), (1, .int x1), (2, .int x2)]) (hf : f5_arrives_0 x1 x2 v1 = some t) : W p l e rm5_arrives s m args below meth c H locs 0 0 (MQ below (va_Qv (fun (_ : Unit) => True) (fun _ t9 => mB D cI cZ ad v0 t v2 v3 v4 v5 v6 v7 v8 t9) (mA ad s.heap.size)) args s 0 0 (mA ad s.heap.size)) (F0 m 0 ls []) := by
  obtain ⟨⟨hx, hb, hml, hown, hts⟩, hr, hlk, hK⟩ := id X
  replace hf : (gd (e5_of x1 1) 171 (if x2 ≤ 25 then (f5_arrives_24 x1 (v1 (Int32.toNatClampNeg (e5_of x1 1))) 0 v1) else (f5_arrives_24 x1 (v1 (Int32.toNatClampNeg (e5_of x1 1))) ((v1 (Int32.toNatClampNeg (e5_of x1 1))) / 2) v1))) = some t := hf
  refine lv_aload_n hx hb dX5_arrives_0 rfl (lv_at hl 0 rfl) ?_
  refine mr_get X hH.1 (k := 0) (v := .ref (ad 1)) (by decide) gfX5_7 rfl dX5_arrives_1 ?_
  refine lv_iload_n hx hb dX5_arrives_4 rfl (lv_at hl 1 rfl) ?_
  refine lv_iconst (v := 1) hx hb dX5_arrives_5 (by decide) ?_
  refine k5_of X.1 hl.1 qX5_43 ⟨Nat.le_of_ble_eq_true rfl, Nat.le_of_ble_eq_true rfl⟩ (Nat.le_of_ble_eq_true rfl) dX5_arrives_6 ⟨Nat.zero_le _, Nat.zero_le _⟩ ?_
  obtain ⟨hi1, hf⟩ := gd_o hf
  refine mr_ld1 X hH.1 hi1 dX5_arrives_9 ?_
  refine lv_istore_n (lv' := [(3, .int (v1 (Int32.toNatClampNeg (e5_of x1 1)))), (0, .ref (ad 0)), (1, .int x1), (2, .int x2)]) hx hb dX5_arrives_10 rfl hl (by decide) rfl (fun ls hl => ?_)
  refine lv_iload_n hx hb dX5_arrives_11 rfl (lv_at hl 3 rfl) ?_
  refine lv_bipush (v := 25) hx hb dX5_arrives_12 (by decide) ?_
  refine lv_icmp_le (tgt := 23) hx hb dX5_arrives_14 (by decide) (fun c2 => ?_) (fun c2 => ?_)
  · have hf := it_t c2 hf
    refine lv_iconst (v := 0) hx hb dX5_arrives_23 (by decide) ?_
    exact w5_arrives_24 X hI hH (lv_sub hl [1, 2, 0] rfl) hf
  · have hf := it_f c2 hf
    refine lv_iload_n hx hb dX5_arrives_17 rfl (lv_at hl 0 rfl) ?_
    refine lv_iconst (v := 2) hx hb dX5_arrives_18 (by decide) ?_
    refine lv_idiv hx hb dX5_arrives_19 (by decide) ?_
    refine lv_goto (tgt := 24) hx hb dX5_arrives_20 (by decide) ?_
    exact w5_arrives_24 X hI hH (lv_sub hl [1, 2, 0] rfl) hf
set_option maxRecDepth 100000 in
set_option maxHeartbeats 4000000 in
theorem c5_arrives (l : Launch) {D : va_G} {cI cZ : ClassId} {ad : Nat → Nat} {v0 v1 v2 v3 v4 v5 v6 v7 v8 : Nat → Int32} (hI : mInj ad) (sz : Nat) (x1 : Int32) (x2 : Int32) {t : (Nat → Int32)} (hf : f5_arrives_0 x1 x2 v1 = some t) : Met l yX5_arrives uX5_arrives rm5_arrives (va_Pc [.ref (ad 0), .int x1, .int x2] (fun U => U.heap.size = sz ∧ mB D cI cZ ad v0 v1 v2 v3 v4 v5 v6 v7 v8 U)) (va_Qv (fun (_ : Unit) => True) (fun _ t9 => mB D cI cZ ad v0 t v2 v3 v4 v5 v6 v7 v8 t9) (mA ad sz)) 0 0 (mA ad sz) := by
  refine Met.ofW (cc := cX5_arrives) (maxL := 5) (ret := none) (by decide) rfl ?_
  intro p e s m args below meth c s₁ B hml hv
  obtain ⟨rfl, hsz, hP, hK⟩ := hv
  subst hsz
  have X : mX D cI cZ p s m ([.ref (ad 0), .int x1, .int x2] : List Value).toArray meth c cX5_arrives 5 none := ⟨⟨B.exec, B.bytes, hml, findClass_of_methodNamed B.named, fun w h => atoms_spec (ws := uX5_arrives) B.pre w (List.mem_cons_of_mem _ h)⟩, B.returns, B.notSynchronized, hK⟩
  have hl := lv_entry ([.ref (ad 0), .int x1, .int x2]) (n := 5) (Nat.le_of_ble_eq_true rfl)
  rw [lg_entry_eq]
  generalize (lg_sl ([.ref (ad 0), .int x1, .int x2]) ++ List.replicate (5 - (lg_sl ([.ref (ad 0), .int x1, .int x2])).length) Slot.unset).toArray = ls at hl ⊢
  have hl : lv_has ls 5 [(0, .ref (ad 0)), (1, .int x1), (2, .int x2)] := hl
  exact w5_arrives_0 X hI ⟨hP, va_S.rf⟩ (lv_sub hl [0, 1, 2] rfl) hf
set_option maxRecDepth 100000 in
set_option maxHeartbeats 4000000 in
theorem k5_arrives {p : Program} {l : Launch} {e : Env} {R : Room} {s : State} {m : MethodId} {args : Array Value} {below : List Frame} {meth : Method} {c : Code} {cc : ByteArray} {nL : Nat} {ret : Option FieldType} {D : va_G} {cI cZ : ClassId} {ad : Nat → Nat} {v0 v1 v2 v3 v4 v5 v6 v7 v8 : Nat → Int32} {H : Heap} {locs : List Loc} {cells slots : Nat} {Q : State → Prop} {pc : Nat} {ls : Array Slot} {rest : List Value} (X : mX D cI cZ p s m args meth c cc nL ret) (hI : mInj ad) (hH : mH D cI cZ ad v0 v1 v2 v3 v4 v5 v6 v7 v8 s H locs) (hls : ls.size = nL) {index : Nat} (hG : GoodIn gw (wsV RX5 index RX5 yX5_arrives uX5_arrives)) (hR : rm5_arrives.frames + 1 ≤ R.frames ∧ 8 + (5 + 11) + rm5_arrives.locals ≤ R.locals) {x1 : Int32} {x2 : Int32} {t : (Nat → Int32)} (hf : f5_arrives_0 x1 x2 v1 = some t) (hrest : (rest.map fun v => v.category).sum ≤ 8) (hdg : decode cc pc = .ok (.invokevirtual index, 3)) (hc : cells ≤ R.cells ∧ slots ≤ R.slots) (kk : ∀ (H1 : Heap) (locs1 : List Loc), mH D cI cZ ad v0 t v2 v3 v4 v5 v6 v7 v8 s H1 locs1 → W p l e R s m args below meth c H1 locs1 cells slots Q (F0 m (pc + 3) ls (rest))) : W p l e R s m args below meth c H locs cells slots Q (F0 m pc ls (.int x2 :: .int x1 :: .ref (ad 0) :: rest)) := by
  have hA : ∀ q, mA ad H.size q → mA ad s.heap.size q := fun q h => h.elim Or.inl (fun h => Or.inr (Nat.le_trans hH.2.1 h))
  refine va_callv (va_runV (As := [.int x1, .int x2]) (rest := rest) X.1 (c5_arrives l hI H.size x1 x2 hf) (cwV 2 X.1.2.2.2.2 hG rfl rfl rfl (by decide +kernel) hR) ⟨mBs_bl, va_recv X.2.2.2 hH.1 (ci := 5) (q0 := 0) rfl rfl, fun U hU hW => ⟨rfl, by rw [hU], by rw [hU]; exact hH.1, va_K.moved hW.alike X.2.2.2⟩⟩ rfl rfl hls rfl (lv_room hrest) hdg hc) hH.2 (fun q _ h => hA q h) hA (fun u t9 H1 locs1 ht hvm hw hB hz1 hk1 hS => ?_)
  exact kk H1 locs1 ⟨by rw [← ht]; exact hB.1, hS⟩
