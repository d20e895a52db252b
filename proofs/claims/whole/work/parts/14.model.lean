/-! OreRailwayModel.rolling(I)I -/
def rm5_rolling : Room := { frames := 3, cells := 0, slots := 0, locals := 68 }
def f5_rolling_38 (v1 : Nat → Int32) (y0 : Int32) (v0 : Nat → Int32) (v7 : Nat → Int32) : Option (Int32 × (Nat → Int32) × (Nat → Int32)) := some (y0, v0, v7)
set_option maxRecDepth 100000 in
set_option maxHeartbeats 4000000 in
theorem w5_rolling_38 {p : Program} {l : Launch} {e : Env} {s : State} {m : MethodId} {args : Array Value} {below : List Frame} {meth : Method} {c : Code} {D : va_G} {cI cZ : ClassId} {ad : Nat → Nat} {v0 v1 v2 v3 v4 v5 v6 v7 v8 : Nat → Int32} (X : mX D cI cZ p s m args meth c cX5_rolling 3 (some .int)) (hI : mInj ad) {y0 : Int32} {t : Int32 × (Nat → Int32) × (Nat → Int32)}  {H : Heap} {locs : List Loc} (hH : mH D cI cZ ad v0 v1 v2 v3 v4 v5 v6 v7 v8 s H locs) {ls : Array Slot} (hl : lv_has ls 3 []) (hf : f5_rolling_38 v1 y0 v0 v7 = some t) : W p l e rm5_rolling s m args below meth c H locs 0 0 (MQ below (va_Qi (fun (r9 : Int32) (_ : Unit) => r9 = t.1) (fun _ t9 => mB D cI cZ ad t.2.1 v1 v2 v3 v4 v5 v6 t.2.2 v8 t9) (mA ad s.heap.size)) args s 0 0 (mA ad s.heap.size)) (F0 m 38 ls [.int y0]) := by
  obtain ⟨⟨hx, hb, hml, hown, hts⟩, hr, hlk, hK⟩ := id X
  replace hf : (some (y0, v0, v7)) = some t := hf
  obtain rfl := so_i hf
  exact mr_iw X hH rfl dX5_rolling_38
def f5_rolling_10 (v1 : Nat → Int32) (x1 : Int32) (y0 : Int32) (v0 : Nat → Int32) (v7 : Nat → Int32) : Option (Int32 × (Nat → Int32) × (Nat → Int32)) := Option.bind (f5_refused_0 y0 v0) (fun t1 => if t1.1 = 0 then (Option.bind (f5_notes_0 v1 v7) (fun t3 => if t3.1 ≤ x1 then (f5_rolling_38 v1 ((-1)) t1.2 t3.2) else (gd x1 8 (f5_rolling_38 v1 (t3.2 (Int32.toNatClampNeg x1)) t1.2 t3.2)))) else (some (0, t1.2, v7)))
set_option maxRecDepth 100000 in
set_option maxHeartbeats 4000000 in
theorem w5_rolling_10 {p : Program} {l : Launch} {e : Env} {s : State} {m : MethodId} {args : Array Value} {below : List Frame} {meth : Method} {c : Code} {D : va_G} {cI cZ : ClassId} {ad : Nat → Nat} {v0 v1 v2 v3 v4 v5 v6 v7 v8 : Nat → Int32} (X : mX D cI cZ p s m args meth c cX5_rolling 3 (some .int)) (hI : mInj ad) {x1 : Int32} {y0 : Int32} {t : Int32 × (Nat → Int32) × (Nat → Int32)}  {H : Heap} {locs : List Loc} (hH : mH D cI cZ ad v0 v1 v2 v3 v4 v5 v6 v7 v8 s H locs) {ls : Array Slot} (hl : lv_has ls 3 [(0, .ref (ad 0)), (1, .int x1)]) (hf : f5_rolling_10 v1 x1 y0 v0 v7 = some t) : W p l e rm5_rolling s m args below meth c H locs 0 0 (MQ below (va_Qi (fun (r9 : Int32) (_ : Unit) => r9 = t.1) (fun _ t9 => mB D cI cZ ad t.2.1 v1 v2 v3 v4 v5 v6 t.2.2 v8 t9) (mA ad s.heap.size)) args s 0 0 (mA ad s.heap.size)) (F0 m 10 ls [.int y0, .ref (ad 0)]) := by
  obtain ⟨⟨hx, hb, hml, hown, hts⟩, hr, hlk, hK⟩ := id X
  replace hf : (Option.bind (f5_refused_0 y0 v0) (fun t1 => if t1.1 = 0 then (Option.bind (f5_notes_0 v1 v7) (fun t3 => if t3.1 ≤ x1 then (f5_rolling_38 v1 ((-1)) t1.2 t3.2) else (gd x1 8 (f5_rolling_38 v1 (t3.2 (Int32.toNatClampNeg x1)) t1.2 t3.2)))) else (some (0, t1.2, v7)))) = some t := hf
  obtain ⟨t1, ht1, hf⟩ := bd_o hf
  refine k5_refused X hI hH hl.1 qX5_50 ⟨Nat.le_of_ble_eq_true rfl, Nat.le_of_ble_eq_true rfl⟩ ht1 (Nat.le_of_ble_eq_true rfl) dX5_rolling_10 ⟨Nat.zero_le _, Nat.zero_le _⟩ (fun H locs hH => ?_)
  refine lv_if_eq (tgt := 18) hx hb dX5_rolling_13 (by decide) (fun c2 => ?_) (fun c2 => ?_)
  · have hf := it_t c2 hf
    refine lv_aload_n hx hb dX5_rolling_18 rfl (lv_at hl 0 rfl) ?_
    obtain ⟨t3, ht3, hf⟩ := bd_o hf
    refine k5_notes X hI hH hl.1 qX5_128 ⟨Nat.le_of_ble_eq_true rfl, Nat.le_of_ble_eq_true rfl⟩ ht3 (Nat.le_of_ble_eq_true rfl) dX5_rolling_19 ⟨Nat.zero_le _, Nat.zero_le _⟩ (fun H locs hH => ?_)
    refine lv_istore_n (lv' := [(2, .int t3.1), (0, .ref (ad 0)), (1, .int x1)]) hx hb dX5_rolling_22 rfl hl (by decide) rfl (fun ls hl => ?_)
    refine lv_iload_n hx hb dX5_rolling_23 rfl (lv_at hl 2 rfl) ?_
    refine lv_iload_n hx hb dX5_rolling_24 rfl (lv_at hl 0 rfl) ?_
    refine lv_icmp_ge (tgt := 37) hx hb dX5_rolling_25 (by decide) (fun c4 => ?_) (fun c4 => ?_)
    · have hf := it_t c4 hf
      refine lv_iconst (v := (-1)) hx hb dX5_rolling_37 (by decide) ?_
      exact w5_rolling_38 X hI hH (lv_sub hl [] rfl) hf
    · have hf := it_f c4 hf
      refine lv_aload_n hx hb dX5_rolling_28 rfl (lv_at hl 1 rfl) ?_
      refine mr_get X hH.1 (k := 9) (v := .ref (ad 7)) (by decide) gfX5_29 rfl dX5_rolling_29 ?_
      refine lv_iload_n hx hb dX5_rolling_32 rfl (lv_at hl 2 rfl) ?_
      obtain ⟨hi5, hf⟩ := gd_o hf
      refine mr_ld7 X hH.1 hi5 dX5_rolling_33 ?_
      refine lv_goto (tgt := 38) hx hb dX5_rolling_34 (by decide) ?_
      exact w5_rolling_38 X hI hH (lv_sub hl [] rfl) hf
  · have hf := it_f c2 hf
    refine lv_iconst (v := 0) hx hb dX5_rolling_16 (by decide) ?_
    obtain rfl := so_i hf
    exact mr_iw X hH rfl dX5_rolling_17
def f5_rolling_0 (v1 : Nat → Int32) (x1 : Int32) (v0 : Nat → Int32) (v7 : Nat → Int32) : Option (Int32 × (Nat → Int32) × (Nat → Int32)) := if 0 ≤ x1 then (f5_rolling_10 v1 x1 0 v0 v7) else (f5_rolling_10 v1 x1 1 v0 v7)
set_option maxRecDepth 100000 in
set_option maxHeartbeats 4000000 in
theorem w5_rolling_0 {p : Program} {l : Launch} {e : Env} {s : State} {m : MethodId} {args : Array Value} {below : List Frame} {meth : Method} {c : Code} {D : va_G} {cI cZ : ClassId} {ad : Nat → Nat} {v0 v1 v2 v3 v4 v5 v6 v7 v8 : Nat → Int32} (X : mX D cI cZ p s m args meth c cX5_rolling 3 (some .int)) (hI : mInj ad) {x1 : Int32} {t : Int32 × (Nat → Int32) × (Nat → Int32)}  {H : Heap} {locs : List Loc} (hH : mH D cI cZ ad v0 v1 v2 v3 v4 v5 v6 v7 v8 s H locs) {ls : Array Slot} (hl : lv_has ls 3 [(0, .ref (ad 0)), (1, .int x1)]) (hf : f5_rolling_0 v1 x1 v0 v7 = some t) : W p l e rm5_rolling s m args below meth c H locs 0 0 (MQ below (va_Qi (fun (r9 : Int32) (_ : Unit) => r9 = t.1) (fun _ t9 => mB D cI cZ ad t.2.1 v1 v2 v3 v4 v5 v6 t.2.2 v8 t9) (mA ad s.heap.size)) args s 0 0 (mA ad s.heap.size)) (F0 m 0 ls []) := by
  obtain ⟨⟨hx, hb, hml, hown, hts⟩, hr, hlk, hK⟩ := id X
  replace hf : (if 0 ≤ x1 then (f5_rolling_10 v1 x1 0 v0 v7) else (f5_rolling_10 v1 x1 1 v0 v7)) = some t := hf
  refine lv_aload_n hx hb dX5_rolling_0 rfl (lv_at hl 0 rfl) ?_
  refine lv_iload_n hx hb dX5_rolling_1 rfl (lv_at hl 1 rfl) ?_
  refine lv_if_ge (tgt := 9) hx hb dX5_rolling_2 (by decide) (fun c1 => ?_) (fun c1 => ?_)
  · have hf := it_t c1 hf
    refine lv_iconst (v := 0) hx hb dX5_rolling_9 (by decide) ?_
    exact w5_rolling_10 X hI hH (lv_sub hl [0, 1] rfl) hf
  · have hf := it_f c1 hf
    refine lv_iconst (v := 1) hx hb dX5_rolling_5 (by decide) ?_
    refine lv_goto (tgt := 10) hx hb dX5_rolling_6 (by decide) ?_
    exact w5_rolling_10 X hI hH (lv_sub hl [0, 1] rfl) hf
set_option maxRecDepth 100000 in
set_option maxHeartbeats 4000000 in
theorem c5_rolling (l : Launch) {D : va_G} {cI cZ : ClassId} {ad : Nat → Nat} {v0 v1 v2 v3 v4 v5 v6 v7 v8 : Nat → Int32} (hI : mInj ad) (sz : Nat) (x1 : Int32) {t : Int32 × (Nat → Int32) × (Nat → Int32)} (hf : f5_rolling_0 v1 x1 v0 v7 = some t) : Met l yX5_rolling uX5_rolling rm5_rolling (va_Pc [.ref (ad 0), .int x1] (fun U => U.heap.size = sz ∧ mB D cI cZ ad v0 v1 v2 v3 v4 v5 v6 v7 v8 U)) (va_Qi (fun (r9 : Int32) (_ : Unit) => r9 = t.1) (fun _ t9 => mB D cI cZ ad t.2.1 v1 v2 v3 v4 v5 v6 t.2.2 v8 t9) (mA ad sz)) 0 0 (mA ad sz) := by
  refine Met.ofW (cc := cX5_rolling) (maxL := 3) (ret := (some .int)) (by decide) rfl ?_
  intro p e s m args below meth c s₁ B hml hv
  obtain ⟨rfl, hsz, hP, hK⟩ := hv
  subst hsz
  have X : mX D cI cZ p s m ([.ref (ad 0), .int x1] : List Value).toArray meth c cX5_rolling 3 (some .int) := ⟨⟨B.exec, B.bytes, hml, findClass_of_methodNamed B.named, fun w h => atoms_spec (ws := uX5_rolling) B.pre w (List.mem_cons_of_mem _ h)⟩, B.returns, B.notSynchronized, hK⟩
  have hl := lv_entry ([.ref (ad 0), .int x1]) (n := 3) (Nat.le_of_ble_eq_true rfl)
  rw [lg_entry_eq]
  generalize (lg_sl ([.ref (ad 0), .int x1]) ++ List.replicate (3 - (lg_sl ([.ref (ad 0), .int x1])).length) Slot.unset).toArray = ls at hl ⊢
  have hl : lv_has ls 3 [(0, .ref (ad 0)), (1, .int x1)] := hl
  exact w5_rolling_0 X hI ⟨hP, va_S.rf⟩ (lv_sub hl [0, 1] rfl) hf
set_option maxRecDepth 100000 in
set_option maxHeartbeats 4000000 in
theorem k5_rolling {p : Program} {l : Launch} {e : Env} {R : Room} {s : State} {m : MethodId} {args : Array Value} {below : List Frame} {meth : Method} {c : Code} {cc : ByteArray} {nL : Nat} {ret : Option FieldType} {D : va_G} {cI cZ : ClassId} {ad : Nat → Nat} {v0 v1 v2 v3 v4 v5 v6 v7 v8 : Nat → Int32} {H : Heap} {locs : List Loc} {cells slots : Nat} {Q : State → Prop} {pc : Nat} {ls : Array Slot} {rest : List Value} (X : mX D cI cZ p s m args meth c cc nL ret) (hI : mInj ad) (hH : mH D cI cZ ad v0 v1 v2 v3 v4 v5 v6 v7 v8 s H locs) (hls : ls.size = nL) {index : Nat} (hG : GoodIn gw (wsV RX5 index RX5 yX5_rolling uX5_rolling)) (hR : rm5_rolling.frames + 1 ≤ R.frames ∧ 8 + (3 + 11) + rm5_rolling.locals ≤ R.locals) {x1 : Int32} {t : Int32 × (Nat → Int32) × (Nat → Int32)} (hf : f5_rolling_0 v1 x1 v0 v7 = some t) (hrest : (rest.map fun v => v.category).sum ≤ 8) (hdg : decode cc pc = .ok (.invokevirtual index, 3)) (hc : cells ≤ R.cells ∧ slots ≤ R.slots) (kk : ∀ (H1 : Heap) (locs1 : List Loc), mH D cI cZ ad t.2.1 v1 v2 v3 v4 v5 v6 t.2.2 v8 s H1 locs1 → W p l e R s m args below meth c H1 locs1 cells slots Q (F0 m (pc + 3) ls (.int t.1 :: rest))) : W p l e R s m args below meth c H locs cells slots Q (F0 m pc ls (.int x1 :: .ref (ad 0) :: rest)) := by
  have hA : ∀ q, mA ad H.size q → mA ad s.heap.size q := fun q h => h.elim Or.inl (fun h => Or.inr (Nat.le_trans hH.2.1 h))
  refine va_calli (va_runV (As := [.int x1]) (rest := rest) X.1 (c5_rolling l hI H.size x1 hf) (cwV 1 X.1.2.2.2.2 hG rfl rfl rfl (by decide +kernel) hR) ⟨mBs_bl, va_recv X.2.2.2 hH.1 (ci := 5) (q0 := 0) rfl rfl, fun U hU hW => ⟨rfl, by rw [hU], by rw [hU]; exact hH.1, va_K.moved hW.alike X.2.2.2⟩⟩ rfl rfl hls rfl (lv_room hrest) hdg hc) hH.2 (fun q _ h => hA q h) hA (fun r9 u t9 H1 locs1 ht hvm hw hB hz1 hk1 hS => ?_)
  subst hw
  exact kk H1 locs1 ⟨by rw [← ht]; exact hB.1, hS⟩
/-! OreRailwayModel.inCars()I -/
def rm5_inCars : Room := { frames := 1, cells := 0, slots := 0, locals := 21 }
def f5_inCars_4 (v1 : Nat → Int32) : Nat → Int32 → Int32 → Option (Int32)
  | 0, _, _ => none
  | n + 1, x1, x2 => gd 162 171 (if (v1 (Int32.toNatClampNeg 162)) ≤ x2 then (some x1) else (gd (e5_of x2 1) 171 ((f5_inCars_4 v1 n) (x1 + (v1 (Int32.toNatClampNeg (e5_of x2 1)))) (x2 + 1))))
set_option maxRecDepth 100000 in
set_option maxHeartbeats 4000000 in
theorem w5_inCars_4 {p : Program} {l : Launch} {e : Env} {s : State} {m : MethodId} {args : Array Value} {below : List Frame} {meth : Method} {c : Code} {D : va_G} {cI cZ : ClassId} {ad : Nat → Nat} {v0 v1 v2 v3 v4 v5 v6 v7 v8 : Nat → Int32} (X : mX D cI cZ p s m args meth c cX5_inCars 3 (some .int)) (hP : va_P D vwCl (mwW cI cZ ad v0 v1 v2 v3 v4 v5 v6 v7 v8) s.heap) {t : Int32} :
    ∀ (n : Nat) (x1 : Int32) (x2 : Int32) (ls : Array Slot), lv_has ls 3 [(0, .ref (ad 0)), (1, .int x1), (2, .int x2)] → f5_inCars_4 v1 n x1 x2 = some t → W p l e rm5_inCars s m args below meth c s.heap [] 0 0 (MQ below (QcRead t) args s 0 0 (fun _ => False)) (F0 m 4 ls []) := by
  obtain ⟨⟨hx, hb, hml, hown, hts⟩, hr, hlk, hK⟩ := id X
  intro n
  induction n with
  | zero =>
    intro x1 x2 ls hl hf
    cases hf
  | succ n ih =>
    intro x1 x2 ls hl hf
    replace hf : (gd 162 171 (if (v1 (Int32.toNatClampNeg 162)) ≤ x2 then (some x1) else (gd (e5_of x2 1) 171 ((f5_inCars_4 v1 n) (x1 + (v1 (Int32.toNatClampNeg (e5_of x2 1)))) (x2 + 1))))) = some t := hf
    refine lv_iload_n hx hb dX5_inCars_4 rfl (lv_at hl 2 rfl) ?_
    refine lv_aload_n hx hb dX5_inCars_5 rfl (lv_at hl 0 rfl) ?_
    refine mr_get X hP (k := 0) (v := .ref (ad 1)) (by decide) gfX5_7 rfl dX5_inCars_6 ?_
    refine lv_sipush (v := 162) hx hb dX5_inCars_9 (by decide) ?_
    obtain ⟨hi1, hf⟩ := gd_o hf
    refine mr_ld1 X hP hi1 dX5_inCars_12 ?_
    refine lv_icmp_ge (tgt := 35) hx hb dX5_inCars_13 (by decide) (fun c2 => ?_) (fun c2 => ?_)
    · have hf := it_t c2 hf
      refine lv_iload_n hx hb dX5_inCars_35 rfl (lv_at hl 1 rfl) ?_
      obtain rfl := so_i hf
      exact rd_i hx hb hr hlk dX5_inCars_36
    · have hf := it_f c2 hf
      refine lv_iload_n hx hb dX5_inCars_16 rfl (lv_at hl 1 rfl) ?_
      refine lv_aload_n hx hb dX5_inCars_17 rfl (lv_at hl 0 rfl) ?_
      refine mr_get X hP (k := 0) (v := .ref (ad 1)) (by decide) gfX5_7 rfl dX5_inCars_18 ?_
      refine lv_iload_n hx hb dX5_inCars_21 rfl (lv_at hl 2 rfl) ?_
      refine lv_iconst (v := 1) hx hb dX5_inCars_22 (by decide) ?_
      refine k5_of X.1 hl.1 qX5_43 ⟨Nat.le_of_ble_eq_true rfl, Nat.le_of_ble_eq_true rfl⟩ (Nat.le_of_ble_eq_true rfl) dX5_inCars_23 ⟨Nat.zero_le _, Nat.zero_le _⟩ ?_
      obtain ⟨hi3, hf⟩ := gd_o hf
      refine mr_ld1 X hP hi3 dX5_inCars_26 ?_
      refine lv_iadd hx hb dX5_inCars_27 ?_
      refine lv_istore_n (lv' := [(1, .int (x1 + (v1 (Int32.toNatClampNeg (e5_of x2 1))))), (0, .ref (ad 0)), (2, .int x2)]) hx hb dX5_inCars_28 rfl hl (by decide) rfl (fun ls hl => ?_)
      refine lv_iinc (v := x2 + 1) (lv' := [(2, .int (x2 + 1)), (1, .int (x1 + (v1 (Int32.toNatClampNeg (e5_of x2 1))))), (0, .ref (ad 0))]) hx hb dX5_inCars_29 hl (k := 2) rfl rfl (by decide) rfl (fun ls hl => ?_)
      refine lv_goto (tgt := 4) hx hb dX5_inCars_32 (by decide) ?_
      exact ih _ _ _ (lv_sub hl [2, 1, 0] rfl) hf
def f5_inCars_0 (v1 : Nat → Int32) : Option (Int32) := f5_inCars_4 v1 fu 0 0
set_option maxRecDepth 100000 in
set_option maxHeartbeats 4000000 in
theorem w5_inCars_0 {p : Program} {l : Launch} {e : Env} {s : State} {m : MethodId} {args : Array Value} {below : List Frame} {meth : Method} {c : Code} {D : va_G} {cI cZ : ClassId} {ad : Nat → Nat} {v0 v1 v2 v3 v4 v5 v6 v7 v8 : Nat → Int32} (X : mX D cI cZ p s m args meth c cX5_inCars 3 (some .int)) (hP : va_P D vwCl (mwW cI cZ ad v0 v1 v2 v3 v4 v5 v6 v7 v8) s.heap) {t : Int32}  {ls : Array Slot} (hl : lv_has ls 3 [(0, .ref (ad 0))]) (hf : f5_inCars_0 v1  = some t) : W p l e rm5_inCars s m args below meth c s.heap [] 0 0 (MQ below (QcRead t) args s 0 0 (fun _ => False)) (F0 m 0 ls []) := by
  obtain ⟨⟨hx, hb, hml, hown, hts⟩, hr, hlk, hK⟩ := id X
  replace hf : (f5_inCars_4 v1 fu 0 0) = some t := hf
  refine lv_iconst (v := 0) hx hb dX5_inCars_0 (by decide) ?_
  refine lv_istore_n (lv' := [(1, .int 0), (0, .ref (ad 0))]) hx hb dX5_inCars_1 rfl hl (by decide) rfl (fun ls hl => ?_)
  refine lv_iconst (v := 0) hx hb dX5_inCars_2 (by decide) ?_
  refine lv_istore_n (lv' := [(2, .int 0), (1, .int 0), (0, .ref (ad 0))]) hx hb dX5_inCars_3 rfl hl (by decide) rfl (fun ls hl => ?_)
  exact w5_inCars_4 X hP _ _ _ _ (lv_sub hl [2, 1, 0] rfl) hf
set_option maxRecDepth 100000 in
set_option maxHeartbeats 4000000 in
theorem c5_inCars (l : Launch) {D : va_G} {cI cZ : ClassId} {ad : Nat → Nat} {v0 v1 v2 v3 v4 v5 v6 v7 v8 : Nat → Int32} {t : Int32} (hf : f5_inCars_0 v1 = some t) : Met l yX5_inCars uX5_inCars rm5_inCars (va_Pc [.ref (ad 0)] (mB D cI cZ ad v0 v1 v2 v3 v4 v5 v6 v7 v8)) (QcRead t) 0 0 (fun _ => False) := by
  refine Met.ofW (cc := cX5_inCars) (maxL := 3) (ret := (some .int)) (by decide) rfl ?_
  intro p e s m args below meth c s₁ B hml hv
  obtain ⟨rfl, hP, hK⟩ := hv
  have X : mX D cI cZ p s m ([.ref (ad 0)] : List Value).toArray meth c cX5_inCars 3 (some .int) := ⟨⟨B.exec, B.bytes, hml, findClass_of_methodNamed B.named, fun w h => atoms_spec (ws := uX5_inCars) B.pre w (List.mem_cons_of_mem _ h)⟩, B.returns, B.notSynchronized, hK⟩
  have hl := lv_entry ([.ref (ad 0)]) (n := 3) (Nat.le_of_ble_eq_true rfl)
  rw [lg_entry_eq]
  generalize (lg_sl ([.ref (ad 0)]) ++ List.replicate (3 - (lg_sl ([.ref (ad 0)])).length) Slot.unset).toArray = ls at hl ⊢
  have hl : lv_has ls 3 [(0, .ref (ad 0))] := hl
  exact w5_inCars_0 X hP (lv_sub hl [0] rfl) hf
set_option maxRecDepth 100000 in
set_option maxHeartbeats 4000000 in
theorem k5_inCars {p : Program} {l : Launch} {e : Env} {R : Room} {s : State} {m : MethodId} {args : Array Value} {below : List Frame} {meth : Method} {c : Code} {cc : ByteArray} {nL : Nat} {ret : Option FieldType} {D : va_G} {cI cZ : ClassId} {ad : Nat → Nat} {v0 v1 v2 v3 v4 v5 v6 v7 v8 : Nat → Int32} {H : Heap} {locs : List Loc} {cells slots : Nat} {Q : State → Prop} {pc : Nat} {ls : Array Slot} {rest : List Value} (X : mX D cI cZ p s m args meth c cc nL ret) (hP : va_P D vwCl (mwW cI cZ ad v0 v1 v2 v3 v4 v5 v6 v7 v8) H) (hls : ls.size = nL) {index : Nat} (hG : GoodIn gw (wsV RX5 index RX5 yX5_inCars uX5_inCars)) (hR : rm5_inCars.frames + 1 ≤ R.frames ∧ 8 + (3 + 11) + rm5_inCars.locals ≤ R.locals) {t : Int32} (hf : f5_inCars_0 v1 = some t) (hrest : (rest.map fun v => v.category).sum ≤ 8) (hdg : decode cc pc = .ok (.invokevirtual index, 3)) (hc : cells ≤ R.cells ∧ slots ≤ R.slots) (kk : W p l e R s m args below meth c H locs cells slots Q (F0 m (pc + 3) ls (.int t :: rest))) : W p l e R s m args below meth c H locs cells slots Q (F0 m pc ls (.ref (ad 0) :: rest)) :=
  W.callR (W.runV (As := []) X.1 (c5_inCars l hf) (cwV 0 X.1.2.2.2.2 hG rfl rfl rfl (by decide +kernel) hR) ⟨mB_bl, va_recv X.2.2.2 hP (ci := 5) (q0 := 0) rfl rfl, fun U hU hW => ⟨rfl, by rw [hU]; exact hP, va_K.moved hW.alike X.2.2.2⟩⟩ rfl rfl hls rfl (lv_room hrest) hdg hc) kk
/-! OreRailwayModel.count(I)I -/
def rm5_count : Room := { frames := 4, cells := 0, slots := 0, locals := 86 }
def f5_count_16 (v1 : Nat → Int32) (x1 : Int32) (y0 : Int32) (v0 : Nat → Int32) : Option (Int32 × (Nat → Int32)) := Option.bind (f5_refused_0 y0 v0) (fun t1 => if t1.1 = 0 then (if x1 = 0 then (gd 163 171 (some (v1 (Int32.toNatClampNeg 163), t1.2))) else (if x1 = 1 then (gd 162 171 (some (v1 (Int32.toNatClampNeg 162), t1.2))) else (if x1 = 2 then (Option.bind (f5_switches_0 v1) (fun t8 => some (t8, t1.2))) else (if x1 = 3 then (gd 164 171 (some (v1 (Int32.toNatClampNeg 164), t1.2))) else (if x1 = 4 then (gd 165 171 (some (v1 (Int32.toNatClampNeg 165), t1.2))) else (if x1 = 5 then (gd 166 171 (some (v1 (Int32.toNatClampNeg 166), t1.2))) else (if x1 = 6 then (Option.bind (f5_inCars_0 v1) (fun t16 => some (t16, t1.2))) else (if x1 = 7 then (Option.bind (f5_mules_0 v1) (fun t18 => some (t18, t1.2))) else (if x1 = 8 then (gd 167 171 (some (v1 (Int32.toNatClampNeg 167), t1.2))) else (if x1 = 9 then (some (t1.2 3, t1.2)) else (if x1 = 10 then (some (t1.2 7, t1.2)) else (gd ((168 + x1) - 11) 171 (some (v1 (Int32.toNatClampNeg ((168 + x1) - 11)), t1.2)))))))))))))) else (some (0, t1.2)))
set_option maxRecDepth 100000 in
set_option maxHeartbeats 4000000 in
theorem w5_count_16 {p : Program} {l : Launch} {e : Env} {s : State} {m : MethodId} {args : Array Value} {below : List Frame} {meth : Method} {c : Code} {D : va_G} {cI cZ : ClassId} {ad : Nat → Nat} {v0 v1 v2 v3 v4 v5 v6 v7 v8 : Nat → Int32} (X : mX D cI cZ p s m args meth c cX5_count 2 (some .int)) (hI : mInj ad) {x1 : Int32} {y0 : Int32} {t : Int32 × (Nat → Int32)}  {H : Heap} {locs : List Loc} (hH : mH D cI cZ ad v0 v1 v2 v3 v4 v5 v6 v7 v8 s H locs) {ls : Array Slot} (hl : lv_has ls 2 [(0, .ref (ad 0)), (1, .int x1)]) (hf : f5_count_16 v1 x1 y0 v0 = some t) : W p l e rm5_count s m args below meth c H locs 0 0 (MQ below (va_Qi (fun (r9 : Int32) (_ : Unit) => r9 = t.1) (fun _ t9 => mB D cI cZ ad t.2 v1 v2 v3 v4 v5 v6 v7 v8 t9) (mA ad s.heap.size)) args s 0 0 (mA ad s.heap.size)) (F0 m 16 ls [.int y0, .ref (ad 0)]) := by
  obtain ⟨⟨hx, hb, hml, hown, hts⟩, hr, hlk, hK⟩ := id X
  replace hf : (Option.bind (f5_refused_0 y0 v0) (fun t1 => if t1.1 = 0 then (if x1 = 0 then (gd 163 171 (some (v1 (Int32.toNatClampNeg 163), t1.2))) else (if x1 = 1 then (gd 162 171 (some (v1 (Int32.toNatClampNeg 162), t1.2))) else (if x1 = 2 then (Option.bind (f5_switches_0 v1) (fun t8 => some (t8, t1.2))) else (if x1 = 3 then (gd 164 171 (some (v1 (Int32.toNatClampNeg 164), t1.2))) else (if x1 = 4 then (gd 165 171 (some (v1 (Int32.toNatClampNeg 165), t1.2))) else (if x1 = 5 then (gd 166 171 (some (v1 (Int32.toNatClampNeg 166), t1.2))) else (if x1 = 6 then (Option.bind (f5_inCars_0 v1) (fun t16 => some (t16, t1.2))) else (if x1 = 7 then (Option.bind (f5_mules_0 v1) (fun t18 => some (t18, t1.2))) else (if x1 = 8 then (gd 167 171 (some (v1 (Int32.toNatClampNeg 167), t1.2))) else (if x1 = 9 then (some (t1.2 3, t1.2)) else (if x1 = 10 then (some (t1.2 7, t1.2)) else (gd ((168 + x1) - 11) 171 (some (v1 (Int32.toNatClampNeg ((168 + x1) - 11)), t1.2)))))))))))))) else (some (0, t1.2)))) = some t := hf
  obtain ⟨t1, ht1, hf⟩ := bd_o hf
  refine k5_refused X hI hH hl.1 qX5_50 ⟨Nat.le_of_ble_eq_true rfl, Nat.le_of_ble_eq_true rfl⟩ ht1 (Nat.le_of_ble_eq_true rfl) dX5_count_16 ⟨Nat.zero_le _, Nat.zero_le _⟩ (fun H locs hH => ?_)
  refine lv_if_eq (tgt := 24) hx hb dX5_count_19 (by decide) (fun c2 => ?_) (fun c2 => ?_)
  · have hf := it_t c2 hf
    refine lv_iload_n hx hb dX5_count_24 rfl (lv_at hl 1 rfl) ?_
    by_cases c3 : x1 = 0
    · have hf := it_t c3 hf
      refine lv_tableIn (off := 59) (tgt := 84) hx hb dX5_count_25 (by rw [c3]; decide) (by rw [c3]; decide) (by rw [c3]; rfl) (by decide) ?_
      refine lv_aload_n hx hb dX5_count_84 rfl (lv_at hl 0 rfl) ?_
      refine mr_get X hH.1 (k := 0) (v := .ref (ad 1)) (by decide) gfX5_7 rfl dX5_count_85 ?_
      refine lv_sipush (v := 163) hx hb dX5_count_88 (by decide) ?_
      obtain ⟨hi4, hf⟩ := gd_o hf
      refine mr_ld1 X hH.1 hi4 dX5_count_91 ?_
      obtain rfl := so_i hf
      exact mr_iw X hH rfl dX5_count_92
    · have hf := it_f c3 hf
      by_cases c5 : x1 = 1
      · have hf := it_t c5 hf
        refine lv_tableIn (off := 68) (tgt := 93) hx hb dX5_count_25 (by rw [c5]; decide) (by rw [c5]; decide) (by rw [c5]; rfl) (by decide) ?_
        refine lv_aload_n hx hb dX5_count_93 rfl (lv_at hl 0 rfl) ?_
        refine mr_get X hH.1 (k := 0) (v := .ref (ad 1)) (by decide) gfX5_7 rfl dX5_count_94 ?_
        refine lv_sipush (v := 162) hx hb dX5_count_97 (by decide) ?_
        obtain ⟨hi6, hf⟩ := gd_o hf
        refine mr_ld1 X hH.1 hi6 dX5_count_100 ?_
        obtain rfl := so_i hf
        exact mr_iw X hH rfl dX5_count_101
      · have hf := it_f c5 hf
        by_cases c7 : x1 = 2
        · have hf := it_t c7 hf
          refine lv_tableIn (off := 77) (tgt := 102) hx hb dX5_count_25 (by rw [c7]; decide) (by rw [c7]; decide) (by rw [c7]; rfl) (by decide) ?_
          refine lv_aload_n hx hb dX5_count_102 rfl (lv_at hl 0 rfl) ?_
          obtain ⟨t8, ht8, hf⟩ := bd_o hf
          refine k5_switches X hH.1 hl.1 qX5_57 ⟨Nat.le_of_ble_eq_true rfl, Nat.le_of_ble_eq_true rfl⟩ ht8 (Nat.le_of_ble_eq_true rfl) dX5_count_103 ⟨Nat.zero_le _, Nat.zero_le _⟩ ?_
          obtain rfl := so_i hf
          exact mr_iw X hH rfl dX5_count_106
        · have hf := it_f c7 hf
          by_cases c9 : x1 = 3
          · have hf := it_t c9 hf
            refine lv_tableIn (off := 82) (tgt := 107) hx hb dX5_count_25 (by rw [c9]; decide) (by rw [c9]; decide) (by rw [c9]; rfl) (by decide) ?_
            refine lv_aload_n hx hb dX5_count_107 rfl (lv_at hl 0 rfl) ?_
            refine mr_get X hH.1 (k := 0) (v := .ref (ad 1)) (by decide) gfX5_7 rfl dX5_count_108 ?_
            refine lv_sipush (v := 164) hx hb dX5_count_111 (by decide) ?_
            obtain ⟨hi10, hf⟩ := gd_o hf
            refine mr_ld1 X hH.1 hi10 dX5_count_114 ?_
            obtain rfl := so_i hf
            exact mr_iw X hH rfl dX5_count_115
          · have hf := it_f c9 hf
            by_cases c11 : x1 = 4
            · have hf := it_t c11 hf
              refine lv_tableIn (off := 91) (tgt := 116) hx hb dX5_count_25 (by rw [c11]; decide) (by rw [c11]; decide) (by rw [c11]; rfl) (by decide) ?_
              refine lv_aload_n hx hb dX5_count_116 rfl (lv_at hl 0 rfl) ?_
              refine mr_get X hH.1 (k := 0) (v := .ref (ad 1)) (by decide) gfX5_7 rfl dX5_count_117 ?_
              refine lv_sipush (v := 165) hx hb dX5_count_120 (by decide) ?_
              obtain ⟨hi12, hf⟩ := gd_o hf
              refine mr_ld1 X hH.1 hi12 dX5_count_123 ?_
              obtain rfl := so_i hf
              exact mr_iw X hH rfl dX5_count_124
            · have hf := it_f c11 hf
              by_cases c13 : x1 = 5
              · have hf := it_t c13 hf
                refine lv_tableIn (off := 100) (tgt := 125) hx hb dX5_count_25 (by rw [c13]; decide) (by rw [c13]; decide) (by rw [c13]; rfl) (by decide) ?_
                refine lv_aload_n hx hb dX5_count_125 rfl (lv_at hl 0 rfl) ?_
                refine mr_get X hH.1 (k := 0) (v := .ref (ad 1)) (by decide) gfX5_7 rfl dX5_count_126 ?_
                refine lv_sipush (v := 166) hx hb dX5_count_129 (by decide) ?_
                obtain ⟨hi14, hf⟩ := gd_o hf
                refine mr_ld1 X hH.1 hi14 dX5_count_132 ?_
                obtain rfl := so_i hf
                exact mr_iw X hH rfl dX5_count_133
              · have hf := it_f c13 hf
                by_cases c15 : x1 = 6
                · have hf := it_t c15 hf
                  refine lv_tableIn (off := 109) (tgt := 134) hx hb dX5_count_25 (by rw [c15]; decide) (by rw [c15]; decide) (by rw [c15]; rfl) (by decide) ?_
                  refine lv_aload_n hx hb dX5_count_134 rfl (lv_at hl 0 rfl) ?_
                  obtain ⟨t16, ht16, hf⟩ := bd_o hf
                  refine k5_inCars X hH.1 hl.1 qX5_185 ⟨Nat.le_of_ble_eq_true rfl, Nat.le_of_ble_eq_true rfl⟩ ht16 (Nat.le_of_ble_eq_true rfl) dX5_count_135 ⟨Nat.zero_le _, Nat.zero_le _⟩ ?_
                  obtain rfl := so_i hf
                  exact mr_iw X hH rfl dX5_count_138
                · have hf := it_f c15 hf
                  by_cases c17 : x1 = 7
                  · have hf := it_t c17 hf
                    refine lv_tableIn (off := 114) (tgt := 139) hx hb dX5_count_25 (by rw [c17]; decide) (by rw [c17]; decide) (by rw [c17]; rfl) (by decide) ?_
                    refine lv_aload_n hx hb dX5_count_139 rfl (lv_at hl 0 rfl) ?_
                    obtain ⟨t18, ht18, hf⟩ := bd_o hf
                    refine k5_mules X hH.1 hl.1 qX5_80 ⟨Nat.le_of_ble_eq_true rfl, Nat.le_of_ble_eq_true rfl⟩ ht18 (Nat.le_of_ble_eq_true rfl) dX5_count_140 ⟨Nat.zero_le _, Nat.zero_le _⟩ ?_
                    obtain rfl := so_i hf
                    exact mr_iw X hH rfl dX5_count_143
                  · have hf := it_f c17 hf
                    by_cases c19 : x1 = 8
                    · have hf := it_t c19 hf
                      refine lv_tableIn (off := 119) (tgt := 144) hx hb dX5_count_25 (by rw [c19]; decide) (by rw [c19]; decide) (by rw [c19]; rfl) (by decide) ?_
                      refine lv_aload_n hx hb dX5_count_144 rfl (lv_at hl 0 rfl) ?_
                      refine mr_get X hH.1 (k := 0) (v := .ref (ad 1)) (by decide) gfX5_7 rfl dX5_count_145 ?_
                      refine lv_sipush (v := 167) hx hb dX5_count_148 (by decide) ?_
                      obtain ⟨hi20, hf⟩ := gd_o hf
                      refine mr_ld1 X hH.1 hi20 dX5_count_151 ?_
                      obtain rfl := so_i hf
                      exact mr_iw X hH rfl dX5_count_152
                    · have hf := it_f c19 hf
                      by_cases c21 : x1 = 9
                      · have hf := it_t c21 hf
                        refine lv_tableIn (off := 128) (tgt := 153) hx hb dX5_count_25 (by rw [c21]; decide) (by rw [c21]; decide) (by rw [c21]; rfl) (by decide) ?_
                        refine lv_aload_n hx hb dX5_count_153 rfl (lv_at hl 0 rfl) ?_
                        refine mr_get X hH.1 (k := 3) (v := .int (t1.2 3)) (by decide) gfX5_47 rfl dX5_count_154 ?_
                        obtain rfl := so_i hf
                        exact mr_iw X hH rfl dX5_count_157
                      · have hf := it_f c21 hf
                        by_cases c22 : x1 = 10
                        · have hf := it_t c22 hf
                          refine lv_tableIn (off := 133) (tgt := 158) hx hb dX5_count_25 (by rw [c22]; decide) (by rw [c22]; decide) (by rw [c22]; rfl) (by decide) ?_
                          refine lv_aload_n hx hb dX5_count_158 rfl (lv_at hl 0 rfl) ?_
                          refine mr_get X hH.1 (k := 7) (v := .int (t1.2 7)) (by decide) gfX5_141 rfl dX5_count_159 ?_
                          obtain rfl := so_i hf
                          exact mr_iw X hH rfl dX5_count_162
                        · have hf := it_f c22 hf
                          have nc3 : ¬ Int32.toInt x1 = 0 := ne_ti c3 (by decide)
                          have nc5 : ¬ Int32.toInt x1 = 1 := ne_ti c5 (by decide)
                          have nc7 : ¬ Int32.toInt x1 = 2 := ne_ti c7 (by decide)
                          have nc9 : ¬ Int32.toInt x1 = 3 := ne_ti c9 (by decide)
                          have nc11 : ¬ Int32.toInt x1 = 4 := ne_ti c11 (by decide)
                          have nc13 : ¬ Int32.toInt x1 = 5 := ne_ti c13 (by decide)
                          have nc15 : ¬ Int32.toInt x1 = 6 := ne_ti c15 (by decide)
                          have nc17 : ¬ Int32.toInt x1 = 7 := ne_ti c17 (by decide)
                          have nc19 : ¬ Int32.toInt x1 = 8 := ne_ti c19 (by decide)
                          have nc21 : ¬ Int32.toInt x1 = 9 := ne_ti c21 (by decide)
                          have nc22 : ¬ Int32.toInt x1 = 10 := ne_ti c22 (by decide)
                          refine lv_tableOut (tgt := 163) hx hb dX5_count_25 (by omega) (by decide) ?_
                          refine lv_aload_n hx hb dX5_count_163 rfl (lv_at hl 0 rfl) ?_
                          refine mr_get X hH.1 (k := 0) (v := .ref (ad 1)) (by decide) gfX5_7 rfl dX5_count_164 ?_
                          refine lv_sipush (v := 168) hx hb dX5_count_167 (by decide) ?_
                          refine lv_iload_n hx hb dX5_count_170 rfl (lv_at hl 1 rfl) ?_
                          refine lv_iadd hx hb dX5_count_171 ?_
                          refine lv_bipush (v := 11) hx hb dX5_count_172 (by decide) ?_
                          refine lv_isub hx hb dX5_count_174 ?_
                          obtain ⟨hi23, hf⟩ := gd_o hf
                          refine mr_ld1 X hH.1 hi23 dX5_count_175 ?_
                          obtain rfl := so_i hf
                          exact mr_iw X hH rfl dX5_count_176
  · have hf := it_f c2 hf
    refine lv_iconst (v := 0) hx hb dX5_count_22 (by decide) ?_
    obtain rfl := so_i hf
    exact mr_iw X hH rfl dX5_count_23
def f5_count_0 (v1 : Nat → Int32) (x1 : Int32) (v0 : Nat → Int32) : Option (Int32 × (Nat → Int32)) := Option.bind (f5_in_0 x1 0 13) (fun t1 => if t1 = 0 then (f5_count_16 v1 x1 1 v0) else (f5_count_16 v1 x1 0 v0))
set_option maxRecDepth 100000 in
set_option maxHeartbeats 4000000 in
theorem w5_count_0 {p : Program} {l : Launch} {e : Env} {s : State} {m : MethodId} {args : Array Value} {below : List Frame} {meth : Method} {c : Code} {D : va_G} {cI cZ : ClassId} {ad : Nat → Nat} {v0 v1 v2 v3 v4 v5 v6 v7 v8 : Nat → Int32} (X : mX D cI cZ p s m args meth c cX5_count 2 (some .int)) (hI : mInj ad) {x1 : Int32} {t : Int32 × (Nat → Int32)}  {H : Heap} {locs : List Loc} (hH : mH D cI cZ ad v0 v1 v2 v3 v4 v5 v6 v7 v8 s H locs) {ls : Array Slot} (hl : lv_has ls 2 [(0, .ref (ad 0)), (1, .int x1)]) (hf : f5_count_0 v1 x1 v0 = some t) : W p l e rm5_count s m args below meth c H locs 0 0 (MQ below (va_Qi (fun (r9 : Int32) (_ : Unit) => r9 = t.1) (fun _ t9 => mB D cI cZ ad t.2 v1 v2 v3 v4 v5 v6 v7 v8 t9) (mA ad s.heap.size)) args s 0 0 (mA ad s.heap.size)) (F0 m 0 ls []) := by
  obtain ⟨⟨hx, hb, hml, hown, hts⟩, hr, hlk, hK⟩ := id X
  replace hf : (Option.bind (f5_in_0 x1 0 13) (fun t1 => if t1 = 0 then (f5_count_16 v1 x1 1 v0) else (f5_count_16 v1 x1 0 v0))) = some t := hf
  refine lv_aload_n hx hb dX5_count_0 rfl (lv_at hl 0 rfl) ?_
  refine lv_iload_n hx hb dX5_count_1 rfl (lv_at hl 1 rfl) ?_
  refine lv_iconst (v := 0) hx hb dX5_count_2 (by decide) ?_
  refine lv_bipush (v := 13) hx hb dX5_count_3 (by decide) ?_
  obtain ⟨t1, ht1, hf⟩ := bd_o hf
  refine k5_in X.1 hl.1 qX5_39 ⟨Nat.le_of_ble_eq_true rfl, Nat.le_of_ble_eq_true rfl⟩ ht1 (Nat.le_of_ble_eq_true rfl) dX5_count_5 ⟨Nat.zero_le _, Nat.zero_le _⟩ ?_
  refine lv_if_eq (tgt := 15) hx hb dX5_count_8 (by decide) (fun c2 => ?_) (fun c2 => ?_)
  · have hf := it_t c2 hf
    refine lv_iconst (v := 1) hx hb dX5_count_15 (by decide) ?_
    exact w5_count_16 X hI hH (lv_sub hl [0, 1] rfl) hf
  · have hf := it_f c2 hf
    refine lv_iconst (v := 0) hx hb dX5_count_11 (by decide) ?_
    refine lv_goto (tgt := 16) hx hb dX5_count_12 (by decide) ?_
    exact w5_count_16 X hI hH (lv_sub hl [0, 1] rfl) hf
set_option maxRecDepth 100000 in
set_option maxHeartbeats 4000000 in
theorem c5_count (l : Launch) {D : va_G} {cI cZ : ClassId} {ad : Nat → Nat} {v0 v1 v2 v3 v4 v5 v6 v7 v8 : Nat → Int32} (hI : mInj ad) (sz : Nat) (x1 : Int32) {t : Int32 × (Nat → Int32)} (hf : f5_count_0 v1 x1 v0 = some t) : Met l yX5_count uX5_count rm5_count (va_Pc [.ref (ad 0), .int x1] (fun U => U.heap.size = sz ∧ mB D cI cZ ad v0 v1 v2 v3 v4 v5 v6 v7 v8 U)) (va_Qi (fun (r9 : Int32) (_ : Unit) => r9 = t.1) (fun _ t9 => mB D cI cZ ad t.2 v1 v2 v3 v4 v5 v6 v7 v8 t9) (mA ad sz)) 0 0 (mA ad sz) := by
  refine Met.ofW (cc := cX5_count) (maxL := 2) (ret := (some .int)) (by decide) rfl ?_
  intro p e s m args below meth c s₁ B hml hv
  obtain ⟨rfl, hsz, hP, hK⟩ := hv
  subst hsz
  have X : mX D cI cZ p s m ([.ref (ad 0), .int x1] : List Value).toArray meth c cX5_count 2 (some .int) := ⟨⟨B.exec, B.bytes, hml, findClass_of_methodNamed B.named, fun w h => atoms_spec (ws := uX5_count) B.pre w (List.mem_cons_of_mem _ h)⟩, B.returns, B.notSynchronized, hK⟩
  have hl := lv_entry ([.ref (ad 0), .int x1]) (n := 2) (Nat.le_of_ble_eq_true rfl)
  rw [lg_entry_eq]
  generalize (lg_sl ([.ref (ad 0), .int x1]) ++ List.replicate (2 - (lg_sl ([.ref (ad 0), .int x1])).length) Slot.unset).toArray = ls at hl ⊢
  have hl : lv_has ls 2 [(0, .ref (ad 0)), (1, .int x1)] := hl
  exact w5_count_0 X hI ⟨hP, va_S.rf⟩ (lv_sub hl [0, 1] rfl) hf
set_option maxRecDepth 100000 in
set_option maxHeartbeats 4000000 in
theorem k5_count {p : Program} {l : Launch} {e : Env} {R : Room} {s : State} {m : MethodId} {args : Array Value} {below : List Frame} {meth : Method} {c : Code} {cc : ByteArray} {nL : Nat} {ret : Option FieldType} {D : va_G} {cI cZ : ClassId} {ad : Nat → Nat} {v0 v1 v2 v3 v4 v5 v6 v7 v8 : Nat → Int32} {H : Heap} {locs : List Loc} {cells slots : Nat} {Q : State → Prop} {pc : Nat} {ls : Array Slot} {rest : List Value} (X : mX D cI cZ p s m args meth c cc nL ret) (hI : mInj ad) (hH : mH D cI cZ ad v0 v1 v2 v3 v4 v5 v6 v7 v8 s H locs) (hls : ls.size = nL) {index : Nat} (hG : GoodIn gw (wsV RX5 index RX5 yX5_count uX5_count)) (hR : rm5_count.frames + 1 ≤ R.frames ∧ 8 + (2 + 11) + rm5_count.locals ≤ R.locals) {x1 : Int32} {t : Int32 × (Nat → Int32)} (hf : f5_count_0 v1 x1 v0 = some t) (hrest : (rest.map fun v => v.category).sum ≤ 8) (hdg : decode cc pc = .ok (.invokevirtual index, 3)) (hc : cells ≤ R.cells ∧ slots ≤ R.slots) (kk : ∀ (H1 : Heap) (locs1 : List Loc), mH D cI cZ ad t.2 v1 v2 v3 v4 v5 v6 v7 v8 s H1 locs1 → W p l e R s m args below meth c H1 locs1 cells slots Q (F0 m (pc + 3) ls (.int t.1 :: rest))) : W p l e R s m args below meth c H locs cells slots Q (F0 m pc ls (.int x1 :: .ref (ad 0) :: rest)) := by
  have hA : ∀ q, mA ad H.size q → mA ad s.heap.size q := fun q h => h.elim Or.inl (fun h => Or.inr (Nat.le_trans hH.2.1 h))
  refine va_calli (va_runV (As := [.int x1]) (rest := rest) X.1 (c5_count l hI H.size x1 hf) (cwV 1 X.1.2.2.2.2 hG rfl rfl rfl (by decide +kernel) hR) ⟨mBs_bl, va_recv X.2.2.2 hH.1 (ci := 5) (q0 := 0) rfl rfl, fun U hU hW => ⟨rfl, by rw [hU], by rw [hU]; exact hH.1, va_K.moved hW.alike X.2.2.2⟩⟩ rfl rfl hls rfl (lv_room hrest) hdg hc) hH.2 (fun q _ h => hA q h) hA (fun r9 u t9 H1 locs1 ht hvm hw hB hz1 hk1 hS => ?_)
  subst hw
  exact kk H1 locs1 ⟨by rw [← ht]; exact hB.1, hS⟩
/-! OreRailwayModel.refusal(IZ)I -/
def rm5_refusal : Room := { frames := 5, cells := 0, slots := 0, locals := 107 }
def f5_refusal_39 (v1 : Nat → Int32) (y0 : Int32) (v0 : Nat → Int32) : Option (Int32 × (Nat → Int32)) := some (y0, v0)
set_option maxRecDepth 100000 in
set_option maxHeartbeats 4000000 in
theorem w5_refusal_39 {p : Program} {l : Launch} {e : Env} {s : State} {m : MethodId} {args : Array Value} {below : List Frame} {meth : Method} {c : Code} {D : va_G} {cI cZ : ClassId} {ad : Nat → Nat} {v0 v1 v2 v3 v4 v5 v6 v7 v8 : Nat → Int32} (X : mX D cI cZ p s m args meth c cX5_refusal 3 (some .int)) (hI : mInj ad) {y0 : Int32} {t : Int32 × (Nat → Int32)}  {H : Heap} {locs : List Loc} (hH : mH D cI cZ ad v0 v1 v2 v3 v4 v5 v6 v7 v8 s H locs) {ls : Array Slot} (hl : lv_has ls 3 []) (hf : f5_refusal_39 v1 y0 v0 = some t) : W p l e rm5_refusal s m args below meth c H locs 0 0 (MQ below (va_Qi (fun (r9 : Int32) (_ : Unit) => r9 = t.1) (fun _ t9 => mB D cI cZ ad t.2 v1 v2 v3 v4 v5 v6 v7 v8 t9) (mA ad s.heap.size)) args s 0 0 (mA ad s.heap.size)) (F0 m 39 ls [.int y0]) := by
  obtain ⟨⟨hx, hb, hml, hown, hts⟩, hr, hlk, hK⟩ := id X
  replace hf : (some (y0, v0)) = some t := hf
  obtain rfl := so_i hf
  exact mr_iw X hH rfl dX5_refusal_39
def f5_refusal_14 (v1 : Nat → Int32) (x1 : Int32) (x2 : Int32) (y0 : Int32) (v0 : Nat → Int32) : Option (Int32 × (Nat → Int32)) := Option.bind (f5_refused_0 y0 v0) (fun t1 => if t1.1 = 0 then (if x2 = 0 then (Option.bind (f5_noPull_0 v1 x1) (fun t4 => f5_refusal_39 v1 t4 t1.2)) else (Option.bind (f5_noRelease_0 v1 x1) (fun t5 => f5_refusal_39 v1 t5 t1.2))) else (some (0, t1.2)))
set_option maxRecDepth 100000 in
set_option maxHeartbeats 4000000 in
theorem w5_refusal_14 {p : Program} {l : Launch} {e : Env} {s : State} {m : MethodId} {args : Array Value} {below : List Frame} {meth : Method} {c : Code} {D : va_G} {cI cZ : ClassId} {ad : Nat → Nat} {v0 v1 v2 v3 v4 v5 v6 v7 v8 : Nat → Int32} (X : mX D cI cZ p s m args meth c cX5_refusal 3 (some .int)) (hI : mInj ad) {x1 : Int32} {x2 : Int32} {y0 : Int32} {t : Int32 × (Nat → Int32)}  {H : Heap} {locs : List Loc} (hH : mH D cI cZ ad v0 v1 v2 v3 v4 v5 v6 v7 v8 s H locs) {ls : Array Slot} (hl : lv_has ls 3 [(0, .ref (ad 0)), (1, .int x1), (2, .int x2)]) (hf : f5_refusal_14 v1 x1 x2 y0 v0 = some t) : W p l e rm5_refusal s m args below meth c H locs 0 0 (MQ below (va_Qi (fun (r9 : Int32) (_ : Unit) => r9 = t.1) (fun _ t9 => mB D cI cZ ad t.2 v1 v2 v3 v4 v5 v6 v7 v8 t9) (mA ad s.heap.size)) args s 0 0 (mA ad s.heap.size)) (F0 m 14 ls [.int y0, .ref (ad 0)]) := by
  obtain ⟨⟨hx, hb, hml, hown, hts⟩, hr, hlk, hK⟩ := id X
  replace hf : (Option.bind (f5_refused_0 y0 v0) (fun t1 => if t1.1 = 0 then (if x2 = 0 then (Option.bind (f5_noPull_0 v1 x1) (fun t4 => f5_refusal_39 v1 t4 t1.2)) else (Option.bind (f5_noRelease_0 v1 x1) (fun t5 => f5_refusal_39 v1 t5 t1.2))) else (some (0, t1.2)))) = some t := hf
  obtain ⟨t1, ht1, hf⟩ := bd_o hf
  refine k5_refused X hI hH hl.1 qX5_50 ⟨Nat.le_of_ble_eq_true rfl, Nat.le_of_ble_eq_true rfl⟩ ht1 (Nat.le_of_ble_eq_true rfl) dX5_refusal_14 ⟨Nat.zero_le _, Nat.zero_le _⟩ (fun H locs hH => ?_)
  refine lv_if_eq (tgt := 22) hx hb dX5_refusal_17 (by decide) (fun c2 => ?_) (fun c2 => ?_)
  · have hf := it_t c2 hf
    refine lv_iload_n hx hb dX5_refusal_22 rfl (lv_at hl 2 rfl) ?_
    refine lv_if_eq (tgt := 34) hx hb dX5_refusal_23 (by decide) (fun c3 => ?_) (fun c3 => ?_)
    · have hf := it_t c3 hf
      refine lv_aload_n hx hb dX5_refusal_34 rfl (lv_at hl 0 rfl) ?_
      refine lv_iload_n hx hb dX5_refusal_35 rfl (lv_at hl 1 rfl) ?_
      obtain ⟨t4, ht4, hf⟩ := bd_o hf
      refine k5_noPull X hH.1 hl.1 qX5_87 ⟨Nat.le_of_ble_eq_true rfl, Nat.le_of_ble_eq_true rfl⟩ ht4 (Nat.le_of_ble_eq_true rfl) dX5_refusal_36 ⟨Nat.zero_le _, Nat.zero_le _⟩ ?_
      exact w5_refusal_39 X hI hH (lv_sub hl [] rfl) hf
    · have hf := it_f c3 hf
      refine lv_aload_n hx hb dX5_refusal_26 rfl (lv_at hl 0 rfl) ?_
      refine lv_iload_n hx hb dX5_refusal_27 rfl (lv_at hl 1 rfl) ?_
      obtain ⟨t5, ht5, hf⟩ := bd_o hf
      refine k5_noRelease X hH.1 hl.1 qX5_83 ⟨Nat.le_of_ble_eq_true rfl, Nat.le_of_ble_eq_true rfl⟩ ht5 (Nat.le_of_ble_eq_true rfl) dX5_refusal_28 ⟨Nat.zero_le _, Nat.zero_le _⟩ ?_
      refine lv_goto (tgt := 39) hx hb dX5_refusal_31 (by decide) ?_
      exact w5_refusal_39 X hI hH (lv_sub hl [] rfl) hf
  · have hf := it_f c2 hf
    refine lv_iconst (v := 0) hx hb dX5_refusal_20 (by decide) ?_
    obtain rfl := so_i hf
    exact mr_iw X hH rfl dX5_refusal_21
def f5_refusal_0 (v1 : Nat → Int32) (x1 : Int32) (x2 : Int32) (v0 : Nat → Int32) : Option (Int32 × (Nat → Int32)) := Option.bind (f5_isCar_0 v1 x1) (fun t1 => if t1 = 0 then (f5_refusal_14 v1 x1 x2 1 v0) else (f5_refusal_14 v1 x1 x2 0 v0))
set_option maxRecDepth 100000 in
set_option maxHeartbeats 4000000 in
theorem w5_refusal_0 {p : Program} {l : Launch} {e : Env} {s : State} {m : MethodId} {args : Array Value} {below : List Frame} {meth : Method} {c : Code} {D : va_G} {cI cZ : ClassId} {ad : Nat → Nat} {v0 v1 v2 v3 v4 v5 v6 v7 v8 : Nat → Int32} (X : mX D cI cZ p s m args meth c cX5_refusal 3 (some .int)) (hI : mInj ad) {x1 : Int32} {x2 : Int32} {t : Int32 × (Nat → Int32)}  {H : Heap} {locs : List Loc} (hH : mH D cI cZ ad v0 v1 v2 v3 v4 v5 v6 v7 v8 s H locs) {ls : Array Slot} (hl : lv_has ls 3 [(0, .ref (ad 0)), (1, .int x1), (2, .int x2)]) (hf : f5_refusal_0 v1 x1 x2 v0 = some t) : W p l e rm5_refusal s m args below meth c H locs 0 0 (MQ below (va_Qi (fun (r9 : Int32) (_ : Unit) => r9 = t.1) (fun _ t9 => mB D cI cZ ad t.2 v1 v2 v3 v4 v5 v6 v7 v8 t9) (mA ad s.heap.size)) args s 0 0 (mA ad s.heap.size)) (F0 m 0 ls []) := by
  obtain ⟨⟨hx, hb, hml, hown, hts⟩, hr, hlk, hK⟩ := id X
  replace hf : (Option.bind (f5_isCar_0 v1 x1) (fun t1 => if t1 = 0 then (f5_refusal_14 v1 x1 x2 1 v0) else (f5_refusal_14 v1 x1 x2 0 v0))) = some t := hf
  refine lv_aload_n hx hb dX5_refusal_0 rfl (lv_at hl 0 rfl) ?_
  refine lv_aload_n hx hb dX5_refusal_1 rfl (lv_at hl 0 rfl) ?_
  refine lv_iload_n hx hb dX5_refusal_2 rfl (lv_at hl 1 rfl) ?_
  obtain ⟨t1, ht1, hf⟩ := bd_o hf
  refine k5_isCar X hH.1 hl.1 qX5_64 ⟨Nat.le_of_ble_eq_true rfl, Nat.le_of_ble_eq_true rfl⟩ ht1 (Nat.le_of_ble_eq_true rfl) dX5_refusal_3 ⟨Nat.zero_le _, Nat.zero_le _⟩ ?_
  refine lv_if_eq (tgt := 13) hx hb dX5_refusal_6 (by decide) (fun c2 => ?_) (fun c2 => ?_)
  · have hf := it_t c2 hf
    refine lv_iconst (v := 1) hx hb dX5_refusal_13 (by decide) ?_
    exact w5_refusal_14 X hI hH (lv_sub hl [0, 1, 2] rfl) hf
  · have hf := it_f c2 hf
    refine lv_iconst (v := 0) hx hb dX5_refusal_9 (by decide) ?_
    refine lv_goto (tgt := 14) hx hb dX5_refusal_10 (by decide) ?_
    exact w5_refusal_14 X hI hH (lv_sub hl [0, 1, 2] rfl) hf
set_option maxRecDepth 100000 in
set_option maxHeartbeats 4000000 in
theorem c5_refusal (l : Launch) {D : va_G} {cI cZ : ClassId} {ad : Nat → Nat} {v0 v1 v2 v3 v4 v5 v6 v7 v8 : Nat → Int32} (hI : mInj ad) (sz : Nat) (x1 : Int32) (x2 : Int32) {t : Int32 × (Nat → Int32)} (hf : f5_refusal_0 v1 x1 x2 v0 = some t) : Met l yX5_refusal uX5_refusal rm5_refusal (va_Pc [.ref (ad 0), .int x1, .int x2] (fun U => U.heap.size = sz ∧ mB D cI cZ ad v0 v1 v2 v3 v4 v5 v6 v7 v8 U)) (va_Qi (fun (r9 : Int32) (_ : Unit) => r9 = t.1) (fun _ t9 => mB D cI cZ ad t.2 v1 v2 v3 v4 v5 v6 v7 v8 t9) (mA ad sz)) 0 0 (mA ad sz) := by
  refine Met.ofW (cc := cX5_refusal) (maxL := 3) (ret := (some .int)) (by decide) rfl ?_
  intro p e s m args below meth c s₁ B hml hv
  obtain ⟨rfl, hsz, hP, hK⟩ := hv
  subst hsz
  have X : mX D cI cZ p s m ([.ref (ad 0), .int x1, .int x2] : List Value).toArray meth c cX5_refusal 3 (some .int) := ⟨⟨B.exec, B.bytes, hml, findClass_of_methodNamed B.named, fun w h => atoms_spec (ws := uX5_refusal) B.pre w (List.mem_cons_of_mem _ h)⟩, B.returns, B.notSynchronized, hK⟩
  have hl := lv_entry ([.ref (ad 0), .int x1, .int x2]) (n := 3) (Nat.le_of_ble_eq_true rfl)
  rw [lg_entry_eq]
  generalize (lg_sl ([.ref (ad 0), .int x1, .int x2]) ++ List.replicate (3 - (lg_sl ([.ref (ad 0), .int x1, .int x2])).length) Slot.unset).toArray = ls at hl ⊢
  have hl : lv_has ls 3 [(0, .ref (ad 0)), (1, .int x1), (2, .int x2)] := hl
  exact w5_refusal_0 X hI ⟨hP, va_S.rf⟩ (lv_sub hl [0, 1, 2] rfl) hf
set_option maxRecDepth 100000 in
set_option maxHeartbeats 4000000 in
theorem k5_refusal {p : Program} {l : Launch} {e : Env} {R : Room} {s : State} {m : MethodId} {args : Array Value} {below : List Frame} {meth : Method} {c : Code} {cc : ByteArray} {nL : Nat} {ret : Option FieldType} {D : va_G} {cI cZ : ClassId} {ad : Nat → Nat} {v0 v1 v2 v3 v4 v5 v6 v7 v8 : Nat → Int32} {H : Heap} {locs : List Loc} {cells slots : Nat} {Q : State → Prop} {pc : Nat} {ls : Array Slot} {rest : List Value} (X : mX D cI cZ p s m args meth c cc nL ret) (hI : mInj ad) (hH : mH D cI cZ ad v0 v1 v2 v3 v4 v5 v6 v7 v8 s H locs) (hls : ls.size = nL) {index : Nat} (hG : GoodIn gw (wsV RX5 index RX5 yX5_refusal uX5_refusal)) (hR : rm5_refusal.frames + 1 ≤ R.frames ∧ 8 + (3 + 11) + rm5_refusal.locals ≤ R.locals) {x1 : Int32} {x2 : Int32} {t : Int32 × (Nat → Int32)} (hf : f5_refusal_0 v1 x1 x2 v0 = some t) (hrest : (rest.map fun v => v.category).sum ≤ 8) (hdg : decode cc pc = .ok (.invokevirtual index, 3)) (hc : cells ≤ R.cells ∧ slots ≤ R.slots) (kk : ∀ (H1 : Heap) (locs1 : List Loc), mH D cI cZ ad t.2 v1 v2 v3 v4 v5 v6 v7 v8 s H1 locs1 → W p l e R s m args below meth c H1 locs1 cells slots Q (F0 m (pc + 3) ls (.int t.1 :: rest))) : W p l e R s m args below meth c H locs cells slots Q (F0 m pc ls (.int x2 :: .int x1 :: .ref (ad 0) :: rest)) := by
  have hA : ∀ q, mA ad H.size q → mA ad s.heap.size q := fun q h => h.elim Or.inl (fun h => Or.inr (Nat.le_trans hH.2.1 h))
  refine va_calli (va_runV (As := [.int x1, .int x2]) (rest := rest) X.1 (c5_refusal l hI H.size x1 x2 hf) (cwV 2 X.1.2.2.2.2 hG rfl rfl rfl (by decide +kernel) hR) ⟨mBs_bl, va_recv X.2.2.2 hH.1 (ci := 5) (q0 := 0) rfl rfl, fun U hU hW => ⟨rfl, by rw [hU], by rw [hU]; exact hH.1, va_K.moved hW.alike X.2.2.2⟩⟩ rfl rfl hls rfl (lv_room hrest) hdg hc) hH.2 (fun q _ h => hA q h) hA (fun r9 u t9 H1 locs1 ht hvm hw hB hz1 hk1 hS => ?_)
  subst hw
  exact kk H1 locs1 ⟨by rw [← ht]; exact hB.1, hS⟩
/-! OreRailwayModel.alone(III)I -/
def rm5_alone : Room := { frames := 5, cells := 0, slots := 0, locals := 117 }
def f5_alone_165 (y0 : Int32) (v1 : Nat → Int32) (v2 : Nat → Int32) (v7 : Nat → Int32) (v8 : Nat → Int32) : Option (Int32 × (Nat → Int32) × (Nat → Int32) × (Nat → Int32) × (Nat → Int32)) := Option.bind (f5_putBack_0 v2 v1) (fun t1 => some (y0, t1, v2, v7, v8))
set_option maxRecDepth 100000 in
set_option maxHeartbeats 4000000 in
theorem w5_alone_165 {p : Program} {l : Launch} {e : Env} {s : State} {m : MethodId} {args : Array Value} {below : List Frame} {meth : Method} {c : Code} {D : va_G} {cI cZ : ClassId} {ad : Nat → Nat} {v0 v1 v2 v3 v4 v5 v6 v7 v8 : Nat → Int32} (X : mX D cI cZ p s m args meth c cX5_alone 7 (some .int)) (hI : mInj ad) {y0 : Int32} {t : Int32 × (Nat → Int32) × (Nat → Int32) × (Nat → Int32) × (Nat → Int32)}  {H : Heap} {locs : List Loc} (hH : mH D cI cZ ad v0 v1 v2 v3 v4 v5 v6 v7 v8 s H locs) {ls : Array Slot} (hl : lv_has ls 7 [(0, .ref (ad 0))]) (hf : f5_alone_165 y0 v1 v2 v7 v8 = some t) : W p l e rm5_alone s m args below meth c H locs 0 0 (MQ below (va_Qi (fun (r9 : Int32) (_ : Unit) => r9 = t.1) (fun _ t9 => mB D cI cZ ad v0 t.2.1 t.2.2.1 v3 v4 v5 v6 t.2.2.2.1 t.2.2.2.2 t9) (mA ad s.heap.size)) args s 0 0 (mA ad s.heap.size)) (F0 m 165 ls [.int y0]) := by
  obtain ⟨⟨hx, hb, hml, hown, hts⟩, hr, hlk, hK⟩ := id X
  replace hf : (Option.bind (f5_putBack_0 v2 v1) (fun t1 => some (y0, t1, v2, v7, v8))) = some t := hf
  refine lv_istore (lv' := [(6, .int y0), (0, .ref (ad 0))]) hx hb dX5_alone_165 hl (by decide) rfl (fun ls hl => ?_)
  refine lv_aload_n hx hb dX5_alone_167 rfl (lv_at hl 1 rfl) ?_
  obtain ⟨t1, ht1, hf⟩ := bd_o hf
  refine k5_putBack X hI hH hl.1 qX5_191 ⟨Nat.le_of_ble_eq_true rfl, Nat.le_of_ble_eq_true rfl⟩ ht1 (Nat.le_of_ble_eq_true rfl) dX5_alone_168 ⟨Nat.zero_le _, Nat.zero_le _⟩ (fun H locs hH => ?_)
  refine lv_iload hx hb dX5_alone_171 (lv_at hl 0 rfl) ?_
  obtain rfl := so_i hf
  exact mr_iw X hH rfl dX5_alone_173
def f5_alone_86 (x3 : Int32) (x4 : Int32) (x5 : Int32) (v1 : Nat → Int32) (v2 : Nat → Int32) (v7 : Nat → Int32) (v8 : Nat → Int32) : Option (Int32 × (Nat → Int32) × (Nat → Int32) × (Nat → Int32) × (Nat → Int32)) := if x3 = 0 then (gd (e5_of x4 0) 171 (f5_alone_165 (v1 (Int32.toNatClampNeg (e5_of x4 0))) v1 v2 v7 v8)) else (if x3 = 1 then (f5_alone_165 x5 v1 v2 v7 v8) else (if x3 = 2 then (gd (e5_of x4 6) 171 (f5_alone_165 (v1 (Int32.toNatClampNeg (e5_of x4 6))) v1 v2 v7 v8)) else (if x3 = 3 then (gd (e5_of x4 4) 171 (f5_alone_165 (v1 (Int32.toNatClampNeg (e5_of x4 4))) v1 v2 v7 v8)) else (gd (e5_of x4 8) 171 (f5_alone_165 (v1 (Int32.toNatClampNeg (e5_of x4 8))) v1 v2 v7 v8)))))
set_option maxRecDepth 100000 in
set_option maxHeartbeats 4000000 in
theorem w5_alone_86 {p : Program} {l : Launch} {e : Env} {s : State} {m : MethodId} {args : Array Value} {below : List Frame} {meth : Method} {c : Code} {D : va_G} {cI cZ : ClassId} {ad : Nat → Nat} {v0 v1 v2 v3 v4 v5 v6 v7 v8 : Nat → Int32} (X : mX D cI cZ p s m args meth c cX5_alone 7 (some .int)) (hI : mInj ad) {x3 : Int32} {x4 : Int32} {x5 : Int32} {t : Int32 × (Nat → Int32) × (Nat → Int32) × (Nat → Int32) × (Nat → Int32)}  {H : Heap} {locs : List Loc} (hH : mH D cI cZ ad v0 v1 v2 v3 v4 v5 v6 v7 v8 s H locs) {ls : Array Slot} (hl : lv_has ls 7 [(0, .ref (ad 0)), (3, .int x3), (4, .int x4), (5, .int x5)]) (hf : f5_alone_86 x3 x4 x5 v1 v2 v7 v8 = some t) : W p l e rm5_alone s m args below meth c H locs 0 0 (MQ below (va_Qi (fun (r9 : Int32) (_ : Unit) => r9 = t.1) (fun _ t9 => mB D cI cZ ad v0 t.2.1 t.2.2.1 v3 v4 v5 v6 t.2.2.2.1 t.2.2.2.2 t9) (mA ad s.heap.size)) args s 0 0 (mA ad s.heap.size)) (F0 m 86 ls []) := by
  obtain ⟨⟨hx, hb, hml, hown, hts⟩, hr, hlk, hK⟩ := id X
  replace hf : (if x3 = 0 then (gd (e5_of x4 0) 171 (f5_alone_165 (v1 (Int32.toNatClampNeg (e5_of x4 0))) v1 v2 v7 v8)) else (if x3 = 1 then (f5_alone_165 x5 v1 v2 v7 v8) else (if x3 = 2 then (gd (e5_of x4 6) 171 (f5_alone_165 (v1 (Int32.toNatClampNeg (e5_of x4 6))) v1 v2 v7 v8)) else (if x3 = 3 then (gd (e5_of x4 4) 171 (f5_alone_165 (v1 (Int32.toNatClampNeg (e5_of x4 4))) v1 v2 v7 v8)) else (gd (e5_of x4 8) 171 (f5_alone_165 (v1 (Int32.toNatClampNeg (e5_of x4 8))) v1 v2 v7 v8)))))) = some t := hf
  refine lv_iload_n hx hb dX5_alone_86 rfl (lv_at hl 1 rfl) ?_
  refine lv_if_ne (tgt := 104) hx hb dX5_alone_87 (by decide) (fun c1 => ?_) (fun c1 => ?_)
  · have hf := it_f c1 hf
    refine lv_iload_n hx hb dX5_alone_104 rfl (lv_at hl 1 rfl) ?_
    refine lv_iconst (v := 1) hx hb dX5_alone_105 (by decide) ?_
    refine lv_icmp_ne (tgt := 114) hx hb dX5_alone_106 (by decide) (fun c2 => ?_) (fun c2 => ?_)
    · have hf := it_f c2 hf
      refine lv_iload_n hx hb dX5_alone_114 rfl (lv_at hl 1 rfl) ?_
      refine lv_iconst (v := 2) hx hb dX5_alone_115 (by decide) ?_
      refine lv_icmp_ne (tgt := 134) hx hb dX5_alone_116 (by decide) (fun c3 => ?_) (fun c3 => ?_)
      · have hf := it_f c3 hf
        refine lv_iload_n hx hb dX5_alone_134 rfl (lv_at hl 1 rfl) ?_
        refine lv_iconst (v := 3) hx hb dX5_alone_135 (by decide) ?_
        refine lv_icmp_ne (tgt := 153) hx hb dX5_alone_136 (by decide) (fun c4 => ?_) (fun c4 => ?_)
        · have hf := it_f c4 hf
          refine lv_aload_n hx hb dX5_alone_153 rfl (lv_at hl 0 rfl) ?_
          refine mr_get X hH.1 (k := 0) (v := .ref (ad 1)) (by decide) gfX5_7 rfl dX5_alone_154 ?_
          refine lv_iload hx hb dX5_alone_157 (lv_at hl 2 rfl) ?_
          refine lv_bipush (v := 8) hx hb dX5_alone_159 (by decide) ?_
          refine k5_of X.1 hl.1 qX5_43 ⟨Nat.le_of_ble_eq_true rfl, Nat.le_of_ble_eq_true rfl⟩ (Nat.le_of_ble_eq_true rfl) dX5_alone_161 ⟨Nat.zero_le _, Nat.zero_le _⟩ ?_
          obtain ⟨hi5, hf⟩ := gd_o hf
          refine mr_ld1 X hH.1 hi5 dX5_alone_164 ?_
          exact w5_alone_165 X hI hH (lv_sub hl [0] rfl) hf
        · have hf := it_t c4 hf
          refine lv_aload_n hx hb dX5_alone_139 rfl (lv_at hl 0 rfl) ?_
          refine mr_get X hH.1 (k := 0) (v := .ref (ad 1)) (by decide) gfX5_7 rfl dX5_alone_140 ?_
          refine lv_iload hx hb dX5_alone_143 (lv_at hl 2 rfl) ?_
          refine lv_iconst (v := 4) hx hb dX5_alone_145 (by decide) ?_
          refine k5_of X.1 hl.1 qX5_43 ⟨Nat.le_of_ble_eq_true rfl, Nat.le_of_ble_eq_true rfl⟩ (Nat.le_of_ble_eq_true rfl) dX5_alone_146 ⟨Nat.zero_le _, Nat.zero_le _⟩ ?_
          obtain ⟨hi6, hf⟩ := gd_o hf
          refine mr_ld1 X hH.1 hi6 dX5_alone_149 ?_
          refine lv_goto (tgt := 165) hx hb dX5_alone_150 (by decide) ?_
          exact w5_alone_165 X hI hH (lv_sub hl [0] rfl) hf
      · have hf := it_t c3 hf
        refine lv_aload_n hx hb dX5_alone_119 rfl (lv_at hl 0 rfl) ?_
        refine mr_get X hH.1 (k := 0) (v := .ref (ad 1)) (by decide) gfX5_7 rfl dX5_alone_120 ?_
        refine lv_iload hx hb dX5_alone_123 (lv_at hl 2 rfl) ?_
        refine lv_bipush (v := 6) hx hb dX5_alone_125 (by decide) ?_
        refine k5_of X.1 hl.1 qX5_43 ⟨Nat.le_of_ble_eq_true rfl, Nat.le_of_ble_eq_true rfl⟩ (Nat.le_of_ble_eq_true rfl) dX5_alone_127 ⟨Nat.zero_le _, Nat.zero_le _⟩ ?_
        obtain ⟨hi7, hf⟩ := gd_o hf
        refine mr_ld1 X hH.1 hi7 dX5_alone_130 ?_
        refine lv_goto (tgt := 165) hx hb dX5_alone_131 (by decide) ?_
        exact w5_alone_165 X hI hH (lv_sub hl [0] rfl) hf
    · have hf := it_t c2 hf
      refine lv_iload hx hb dX5_alone_109 (lv_at hl 3 rfl) ?_
      refine lv_goto (tgt := 165) hx hb dX5_alone_111 (by decide) ?_
      exact w5_alone_165 X hI hH (lv_sub hl [0] rfl) hf
  · have hf := it_t c1 hf
    refine lv_aload_n hx hb dX5_alone_90 rfl (lv_at hl 0 rfl) ?_
    refine mr_get X hH.1 (k := 0) (v := .ref (ad 1)) (by decide) gfX5_7 rfl dX5_alone_91 ?_
    refine lv_iload hx hb dX5_alone_94 (lv_at hl 2 rfl) ?_
    refine lv_iconst (v := 0) hx hb dX5_alone_96 (by decide) ?_
    refine k5_of X.1 hl.1 qX5_43 ⟨Nat.le_of_ble_eq_true rfl, Nat.le_of_ble_eq_true rfl⟩ (Nat.le_of_ble_eq_true rfl) dX5_alone_97 ⟨Nat.zero_le _, Nat.zero_le _⟩ ?_
    obtain ⟨hi8, hf⟩ := gd_o hf
    refine mr_ld1 X hH.1 hi8 dX5_alone_100 ?_
    refine lv_goto (tgt := 165) hx hb dX5_alone_101 (by decide) ?_
    exact w5_alone_165 X hI hH (lv_sub hl [0] rfl) hf
def f5_alone_58 : Nat → Int32 → Int32 → Int32 → (Nat → Int32) → (Nat → Int32) → (Nat → Int32) → (Nat → Int32) → Option (Int32 × (Nat → Int32) × (Nat → Int32) × (Nat → Int32) × (Nat → Int32))
  | 0, _, _, _, _, _, _, _ => none
  | n + 1, x3, x4, x5, v1, v2, v7, v8 => if 200 ≤ x5 then (f5_alone_86 x3 x4 x5 v1 v2 v7 v8) else (Option.bind (f5_isIn_0 v1 x4 1) (fun t2 => if t2 = 0 then (f5_alone_86 x3 x4 x5 v1 v2 v7 v8) else (Option.bind (f5_tick_0 v1 v7 v8) (fun t4 => (f5_alone_58 n) x3 x4 (x5 + 1) t4.1 v2 t4.2.1 t4.2.2))))
set_option maxRecDepth 100000 in
set_option maxHeartbeats 4000000 in
theorem w5_alone_58 {p : Program} {l : Launch} {e : Env} {s : State} {m : MethodId} {args : Array Value} {below : List Frame} {meth : Method} {c : Code} {D : va_G} {cI cZ : ClassId} {ad : Nat → Nat} {v0 v3 v4 v5 v6 : Nat → Int32} (X : mX D cI cZ p s m args meth c cX5_alone 7 (some .int)) (hI : mInj ad) {t : Int32 × (Nat → Int32) × (Nat → Int32) × (Nat → Int32) × (Nat → Int32)} :
    ∀ (n : Nat) (x3 : Int32) (x4 : Int32) (x5 : Int32) (v1 : Nat → Int32) (v2 : Nat → Int32) (v7 : Nat → Int32) (v8 : Nat → Int32) (H : Heap) (locs : List Loc), mH D cI cZ ad v0 v1 v2 v3 v4 v5 v6 v7 v8 s H locs → ∀ (ls : Array Slot), lv_has ls 7 [(0, .ref (ad 0)), (3, .int x3), (4, .int x4), (5, .int x5)] → f5_alone_58 n x3 x4 x5 v1 v2 v7 v8 = some t → W p l e rm5_alone s m args below meth c H locs 0 0 (MQ below (va_Qi (fun (r9 : Int32) (_ : Unit) => r9 = t.1) (fun _ t9 => mB D cI cZ ad v0 t.2.1 t.2.2.1 v3 v4 v5 v6 t.2.2.2.1 t.2.2.2.2 t9) (mA ad s.heap.size)) args s 0 0 (mA ad s.heap.size)) (F0 m 58 ls []) := by
  obtain ⟨⟨hx, hb, hml, hown, hts⟩, hr, hlk, hK⟩ := id X
  intro n
  induction n with
  | zero =>
    intro x3 x4 x5 v1 v2 v7 v8 H locs hH ls hl hf
    cases hf
  | succ n ih =>
    intro x3 x4 x5 v1 v2 v7 v8 H locs hH ls hl hf
    replace hf : (if 200 ≤ x5 then (f5_alone_86 x3 x4 x5 v1 v2 v7 v8) else (Option.bind (f5_isIn_0 v1 x4 1) (fun t2 => if t2 = 0 then (f5_alone_86 x3 x4 x5 v1 v2 v7 v8) else (Option.bind (f5_tick_0 v1 v7 v8) (fun t4 => (f5_alone_58 n) x3 x4 (x5 + 1) t4.1 v2 t4.2.1 t4.2.2))))) = some t := hf
    refine lv_iload hx hb dX5_alone_58 (lv_at hl 3 rfl) ?_
    refine lv_sipush (v := 200) hx hb dX5_alone_60 (by decide) ?_
    refine lv_icmp_ge (tgt := 86) hx hb dX5_alone_63 (by decide) (fun c1 => ?_) (fun c1 => ?_)
    · have hf := it_t c1 hf
      exact w5_alone_86 X hI hH (lv_sub hl [0, 1, 2, 3] rfl) hf
    · have hf := it_f c1 hf
      refine lv_aload_n hx hb dX5_alone_66 rfl (lv_at hl 0 rfl) ?_
      refine lv_iload hx hb dX5_alone_67 (lv_at hl 2 rfl) ?_
      refine lv_iconst (v := 1) hx hb dX5_alone_69 (by decide) ?_
      obtain ⟨t2, ht2, hf⟩ := bd_o hf
      refine k5_isIn X hH.1 hl.1 qX5_67 ⟨Nat.le_of_ble_eq_true rfl, Nat.le_of_ble_eq_true rfl⟩ ht2 (Nat.le_of_ble_eq_true rfl) dX5_alone_70 ⟨Nat.zero_le _, Nat.zero_le _⟩ ?_
      refine lv_if_eq (tgt := 86) hx hb dX5_alone_73 (by decide) (fun c3 => ?_) (fun c3 => ?_)
      · have hf := it_t c3 hf
        exact w5_alone_86 X hI hH (lv_sub hl [0, 1, 2, 3] rfl) hf
      · have hf := it_f c3 hf
        refine lv_aload_n hx hb dX5_alone_76 rfl (lv_at hl 0 rfl) ?_
        obtain ⟨t4, ht4, hf⟩ := bd_o hf
        refine k5_tick X hI hH hl.1 qX5_135 ⟨Nat.le_of_ble_eq_true rfl, Nat.le_of_ble_eq_true rfl⟩ ht4 (Nat.le_of_ble_eq_true rfl) dX5_alone_77 ⟨Nat.zero_le _, Nat.zero_le _⟩ (fun H locs hH => ?_)
        refine lv_iinc (v := x5 + 1) (lv' := [(5, .int (x5 + 1)), (0, .ref (ad 0)), (3, .int x3), (4, .int x4)]) hx hb dX5_alone_80 hl (k := 3) rfl rfl (by decide) rfl (fun ls hl => ?_)
        refine lv_goto (tgt := 58) hx hb dX5_alone_83 (by decide) ?_
        exact ih _ _ _ _ _ _ _ _ _ hH _ (lv_sub hl [1, 2, 3, 0] rfl) hf
def f5_alone_55 (x3 : Int32) (x4 : Int32) (v1 : Nat → Int32) (v2 : Nat → Int32) (v7 : Nat → Int32) (v8 : Nat → Int32) : Option (Int32 × (Nat → Int32) × (Nat → Int32) × (Nat → Int32) × (Nat → Int32)) := f5_alone_58 fu x3 x4 0 v1 v2 v7 v8
set_option maxRecDepth 100000 in
set_option maxHeartbeats 4000000 in
theorem w5_alone_55 {p : Program} {l : Launch} {e : Env} {s : State} {m : MethodId} {args : Array Value} {below : List Frame} {meth : Method} {c : Code} {D : va_G} {cI cZ : ClassId} {ad : Nat → Nat} {v0 v1 v2 v3 v4 v5 v6 v7 v8 : Nat → Int32} (X : mX D cI cZ p s m args meth c cX5_alone 7 (some .int)) (hI : mInj ad) {x3 : Int32} {x4 : Int32} {t : Int32 × (Nat → Int32) × (Nat → Int32) × (Nat → Int32) × (Nat → Int32)}  {H : Heap} {locs : List Loc} (hH : mH D cI cZ ad v0 v1 v2 v3 v4 v5 v6 v7 v8 s H locs) {ls : Array Slot} (hl : lv_has ls 7 [(0, .ref (ad 0)), (3, .int x3), (4, .int x4)]) (hf : f5_alone_55 x3 x4 v1 v2 v7 v8 = some t) : W p l e rm5_alone s m args below meth c H locs 0 0 (MQ below (va_Qi (fun (r9 : Int32) (_ : Unit) => r9 = t.1) (fun _ t9 => mB D cI cZ ad v0 t.2.1 t.2.2.1 v3 v4 v5 v6 t.2.2.2.1 t.2.2.2.2 t9) (mA ad s.heap.size)) args s 0 0 (mA ad s.heap.size)) (F0 m 55 ls []) := by
  obtain ⟨⟨hx, hb, hml, hown, hts⟩, hr, hlk, hK⟩ := id X
  replace hf : (f5_alone_58 fu x3 x4 0 v1 v2 v7 v8) = some t := hf
  refine lv_iconst (v := 0) hx hb dX5_alone_55 (by decide) ?_
  refine lv_istore (lv' := [(5, .int 0), (0, .ref (ad 0)), (3, .int x3), (4, .int x4)]) hx hb dX5_alone_56 hl (by decide) rfl (fun ls hl => ?_)
  exact w5_alone_58 X hI _ _ _ _ _ _ _ _ _ _ hH _ (lv_sub hl [1, 2, 3, 0] rfl) hf
def f5_alone_0 (x1 : Int32) (x2 : Int32) (x3 : Int32) (v1 : Nat → Int32) (v2 : Nat → Int32) (v7 : Nat → Int32) (v8 : Nat → Int32) : Option (Int32 × (Nat → Int32) × (Nat → Int32) × (Nat → Int32) × (Nat → Int32)) := Option.bind (f5_putAside_0 v1 v2) (fun t1 => gd 162 171 (Option.bind (f5_adds_0 (upd v1 (Int32.toNatClampNeg 162) 0)) (fun t3 => gd (e5_of t3.1 1) 171 (gd (e5_of t3.1 0) 171 (gd (e5_of t3.1 2) 171 (f5_alone_55 x3 t3.1 (upd (upd (upd t3.2 (Int32.toNatClampNeg (e5_of t3.1 1)) x1) (Int32.toNatClampNeg (e5_of t3.1 0)) 1) (Int32.toNatClampNeg (e5_of t3.1 2)) x2) t1 v7 v8))))))
set_option maxRecDepth 100000 in
set_option maxHeartbeats 4000000 in
theorem w5_alone_0 {p : Program} {l : Launch} {e : Env} {s : State} {m : MethodId} {args : Array Value} {below : List Frame} {meth : Method} {c : Code} {D : va_G} {cI cZ : ClassId} {ad : Nat → Nat} {v0 v1 v2 v3 v4 v5 v6 v7 v8 : Nat → Int32} (X : mX D cI cZ p s m args meth c cX5_alone 7 (some .int)) (hI : mInj ad) {x1 : Int32} {x2 : Int32} {x3 : Int32} {t : Int32 × (Nat → Int32) × (Nat → Int32) × (Nat → Int32) × (Nat → Int32)}  {H : Heap} {locs : List Loc} (hH : mH D cI cZ ad v0 v1 v2 v3 v4 v5 v6 v7 v8 s H locs) {ls : Array Slot} (hl : lv_has ls 7 [(0, .ref (ad 0)), (1, .int x1), (2, .int x2), (3, .int x3)]) (hf : f5_alone_0 x1 x2 x3 v1 v2 v7 v8 = some t) : W p l e rm5_alone s m args below meth c H locs 0 0 (MQ below (va_Qi (fun (r9 : Int32) (_ : Unit) => r9 = t.1) (fun _ t9 => mB D cI cZ ad v0 t.2.1 t.2.2.1 v3 v4 v5 v6 t.2.2.2.1 t.2.2.2.2 t9) (mA ad s.heap.size)) args s 0 0 (mA ad s.heap.size)) (F0 m 0 ls []) := by
  obtain ⟨⟨hx, hb, hml, hown, hts⟩, hr, hlk, hK⟩ := id X
  replace hf : (Option.bind (f5_putAside_0 v1 v2) (fun t1 => gd 162 171 (Option.bind (f5_adds_0 (upd v1 (Int32.toNatClampNeg 162) 0)) (fun t3 => gd (e5_of t3.1 1) 171 (gd (e5_of t3.1 0) 171 (gd (e5_of t3.1 2) 171 (f5_alone_55 x3 t3.1 (upd (upd (upd t3.2 (Int32.toNatClampNeg (e5_of t3.1 1)) x1) (Int32.toNatClampNeg (e5_of t3.1 0)) 1) (Int32.toNatClampNeg (e5_of t3.1 2)) x2) t1 v7 v8))))))) = some t := hf
  refine lv_aload_n hx hb dX5_alone_0 rfl (lv_at hl 0 rfl) ?_
  obtain ⟨t1, ht1, hf⟩ := bd_o hf
  refine k5_putAside X hI hH hl.1 qX5_188 ⟨Nat.le_of_ble_eq_true rfl, Nat.le_of_ble_eq_true rfl⟩ ht1 (Nat.le_of_ble_eq_true rfl) dX5_alone_1 ⟨Nat.zero_le _, Nat.zero_le _⟩ (fun H locs hH => ?_)
  refine lv_aload_n hx hb dX5_alone_4 rfl (lv_at hl 0 rfl) ?_
  refine mr_get X hH.1 (k := 0) (v := .ref (ad 1)) (by decide) gfX5_7 rfl dX5_alone_5 ?_
  refine lv_sipush (v := 162) hx hb dX5_alone_8 (by decide) ?_
  refine lv_iconst (v := 0) hx hb dX5_alone_11 (by decide) ?_
  obtain ⟨hi2, hf⟩ := gd_o hf
  refine mr_st1 X hI hH hi2 dX5_alone_12 (fun H locs hH => ?_)
  refine lv_aload_n hx hb dX5_alone_13 rfl (lv_at hl 0 rfl) ?_
  obtain ⟨t3, ht3, hf⟩ := bd_o hf
  refine k5_adds X hI hH hl.1 qX5_61 ⟨Nat.le_of_ble_eq_true rfl, Nat.le_of_ble_eq_true rfl⟩ ht3 (Nat.le_of_ble_eq_true rfl) dX5_alone_14 ⟨Nat.zero_le _, Nat.zero_le _⟩ (fun H locs hH => ?_)
  refine lv_istore (lv' := [(4, .int t3.1), (0, .ref (ad 0)), (1, .int x1), (2, .int x2), (3, .int x3)]) hx hb dX5_alone_17 hl (by decide) rfl (fun ls hl => ?_)
  refine lv_aload_n hx hb dX5_alone_19 rfl (lv_at hl 1 rfl) ?_
  refine mr_get X hH.1 (k := 0) (v := .ref (ad 1)) (by decide) gfX5_7 rfl dX5_alone_20 ?_
  refine lv_iload hx hb dX5_alone_23 (lv_at hl 0 rfl) ?_
  refine lv_iconst (v := 1) hx hb dX5_alone_25 (by decide) ?_
  refine k5_of X.1 hl.1 qX5_43 ⟨Nat.le_of_ble_eq_true rfl, Nat.le_of_ble_eq_true rfl⟩ (Nat.le_of_ble_eq_true rfl) dX5_alone_26 ⟨Nat.zero_le _, Nat.zero_le _⟩ ?_
  refine lv_iload_n hx hb dX5_alone_29 rfl (lv_at hl 2 rfl) ?_
  obtain ⟨hi4, hf⟩ := gd_o hf
  refine mr_st1 X hI hH hi4 dX5_alone_30 (fun H locs hH => ?_)
  refine lv_aload_n hx hb dX5_alone_31 rfl (lv_at hl 1 rfl) ?_
  refine mr_get X hH.1 (k := 0) (v := .ref (ad 1)) (by decide) gfX5_7 rfl dX5_alone_32 ?_
  refine lv_iload hx hb dX5_alone_35 (lv_at hl 0 rfl) ?_
  refine lv_iconst (v := 0) hx hb dX5_alone_37 (by decide) ?_
  refine k5_of X.1 hl.1 qX5_43 ⟨Nat.le_of_ble_eq_true rfl, Nat.le_of_ble_eq_true rfl⟩ (Nat.le_of_ble_eq_true rfl) dX5_alone_38 ⟨Nat.zero_le _, Nat.zero_le _⟩ ?_
  refine lv_iconst (v := 1) hx hb dX5_alone_41 (by decide) ?_
  obtain ⟨hi5, hf⟩ := gd_o hf
  refine mr_st1 X hI hH hi5 dX5_alone_42 (fun H locs hH => ?_)
  refine lv_aload_n hx hb dX5_alone_43 rfl (lv_at hl 1 rfl) ?_
  refine mr_get X hH.1 (k := 0) (v := .ref (ad 1)) (by decide) gfX5_7 rfl dX5_alone_44 ?_
  refine lv_iload hx hb dX5_alone_47 (lv_at hl 0 rfl) ?_
  refine lv_iconst (v := 2) hx hb dX5_alone_49 (by decide) ?_
  refine k5_of X.1 hl.1 qX5_43 ⟨Nat.le_of_ble_eq_true rfl, Nat.le_of_ble_eq_true rfl⟩ (Nat.le_of_ble_eq_true rfl) dX5_alone_50 ⟨Nat.zero_le _, Nat.zero_le _⟩ ?_
  refine lv_iload_n hx hb dX5_alone_53 rfl (lv_at hl 3 rfl) ?_
  obtain ⟨hi6, hf⟩ := gd_o hf
  refine mr_st1 X hI hH hi6 dX5_alone_54 (fun H locs hH => ?_)
  exact w5_alone_55 X hI hH (lv_sub hl [1, 4, 0] rfl) hf
set_option maxRecDepth 100000 in
set_option maxHeartbeats 4000000 in
theorem c5_alone (l : Launch) {D : va_G} {cI cZ : ClassId} {ad : Nat → Nat} {v0 v1 v2 v3 v4 v5 v6 v7 v8 : Nat → Int32} (hI : mInj ad) (sz : Nat) (x1 : Int32) (x2 : Int32) (x3 : Int32) {t : Int32 × (Nat → Int32) × (Nat → Int32) × (Nat → Int32) × (Nat → Int32)} (hf : f5_alone_0 x1 x2 x3 v1 v2 v7 v8 = some t) : Met l yX5_alone uX5_alone rm5_alone (va_Pc [.ref (ad 0), .int x1, .int x2, .int x3] (fun U => U.heap.size = sz ∧ mB D cI cZ ad v0 v1 v2 v3 v4 v5 v6 v7 v8 U)) (va_Qi (fun (r9 : Int32) (_ : Unit) => r9 = t.1) (fun _ t9 => mB D cI cZ ad v0 t.2.1 t.2.2.1 v3 v4 v5 v6 t.2.2.2.1 t.2.2.2.2 t9) (mA ad sz)) 0 0 (mA ad sz) := by
  refine Met.ofW (cc := cX5_alone) (maxL := 7) (ret := (some .int)) (by decide) rfl ?_
  intro p e s m args below meth c s₁ B hml hv
  obtain ⟨rfl, hsz, hP, hK⟩ := hv
  subst hsz
  have X : mX D cI cZ p s m ([.ref (ad 0), .int x1, .int x2, .int x3] : List Value).toArray meth c cX5_alone 7 (some .int) := ⟨⟨B.exec, B.bytes, hml, findClass_of_methodNamed B.named, fun w h => atoms_spec (ws := uX5_alone) B.pre w (List.mem_cons_of_mem _ h)⟩, B.returns, B.notSynchronized, hK⟩
  have hl := lv_entry ([.ref (ad 0), .int x1, .int x2, .int x3]) (n := 7) (Nat.le_of_ble_eq_true rfl)
  rw [lg_entry_eq]
  generalize (lg_sl ([.ref (ad 0), .int x1, .int x2, .int x3]) ++ List.replicate (7 - (lg_sl ([.ref (ad 0), .int x1, .int x2, .int x3])).length) Slot.unset).toArray = ls at hl ⊢
  have hl : lv_has ls 7 [(0, .ref (ad 0)), (1, .int x1), (2, .int x2), (3, .int x3)] := hl
  exact w5_alone_0 X hI ⟨hP, va_S.rf⟩ (lv_sub hl [0, 1, 2, 3] rfl) hf
set_option maxRecDepth 100000 in
set_option maxHeartbeats 4000000 in
theorem k5_alone {p : Program} {l : Launch} {e : Env} {R : Room} {s : State} {m : MethodId} {args : Array Value} {below : List Frame} {meth : Method} {c : Code} {cc : ByteArray} {nL : Nat} {ret : Option FieldType} {D : va_G} {cI cZ : ClassId} {ad : Nat → Nat} {v0 v1 v2 v3 v4 v5 v6 v7 v8 : Nat → Int32} {H : Heap} {locs : List Loc} {cells slots : Nat} {Q : State → Prop} {pc : Nat} {ls : Array Slot} {rest : List Value} (X : mX D cI cZ p s m args meth c cc nL ret) (hI : mInj ad) (hH : mH D cI cZ ad v0 v1 v2 v3 v4 v5 v6 v7 v8 s H locs) (hls : ls.size = nL) {index : Nat} (hG : GoodIn gw (wsV RX5 index RX5 yX5_alone uX5_alone)) (hR : rm5_alone.frames + 1 ≤ R.frames ∧ 8 + (7 + 11) + rm5_alone.locals ≤ R.locals) {x1 : Int32} {x2 : Int32} {x3 : Int32} {t : Int32 × (Nat → Int32) × (Nat → Int32) × (Nat → Int32) × (Nat → Int32)} (hf : f5_alone_0 x1 x2 x3 v1 v2 v7 v8 = some t) (hrest : (rest.map fun v => v.category).sum ≤ 8) (hdg : decode cc pc = .ok (.invokevirtual index, 3)) (hc : cells ≤ R.cells ∧ slots ≤ R.slots) (kk : ∀ (H1 : Heap) (locs1 : List Loc), mH D cI cZ ad v0 t.2.1 t.2.2.1 v3 v4 v5 v6 t.2.2.2.1 t.2.2.2.2 s H1 locs1 → W p l e R s m args below meth c H1 locs1 cells slots Q (F0 m (pc + 3) ls (.int t.1 :: rest))) : W p l e R s m args below meth c H locs cells slots Q (F0 m pc ls (.int x3 :: .int x2 :: .int x1 :: .ref (ad 0) :: rest)) := by
  have hA : ∀ q, mA ad H.size q → mA ad s.heap.size q := fun q h => h.elim Or.inl (fun h => Or.inr (Nat.le_trans hH.2.1 h))
  refine va_calli (va_runV (As := [.int x1, .int x2, .int x3]) (rest := rest) X.1 (c5_alone l hI H.size x1 x2 x3 hf) (cwV 3 X.1.2.2.2.2 hG rfl rfl rfl (by decide +kernel) hR) ⟨mBs_bl, va_recv X.2.2.2 hH.1 (ci := 5) (q0 := 0) rfl rfl, fun U hU hW => ⟨rfl, by rw [hU], by rw [hU]; exact hH.1, va_K.moved hW.alike X.2.2.2⟩⟩ rfl rfl hls rfl (lv_room hrest) hdg hc) hH.2 (fun q _ h => hA q h) hA (fun r9 u t9 H1 locs1 ht hvm hw hB hz1 hk1 hS => ?_)
  subst hw
  exact kk H1 locs1 ⟨by rw [← ht]; exact hB.1, hS⟩
/-! OreRailwayModel.ifAlone(III)I -/
def rm5_ifAlone : Room := { frames := 6, cells := 0, slots := 0, locals := 143 }
def f5_ifAlone_32 (x1 : Int32) (x2 : Int32) (x3 : Int32) (y0 : Int32) (v0 : Nat → Int32) (v1 : Nat → Int32) (v2 : Nat → Int32) (v7 : Nat → Int32) (v8 : Nat → Int32) : Option (Int32 × (Nat → Int32) × (Nat → Int32) × (Nat → Int32) × (Nat → Int32) × (Nat → Int32)) := Option.bind (f5_refused_0 y0 v0) (fun t1 => if t1.1 = 0 then (Option.bind (f5_alone_0 x1 x2 x3 v1 v2 v7 v8) (fun t3 => some (t3.1, t1.2, t3.2.1, t3.2.2.1, t3.2.2.2.1, t3.2.2.2.2))) else (some (0, t1.2, v1, v2, v7, v8)))
set_option maxRecDepth 100000 in
set_option maxHeartbeats 4000000 in
theorem w5_ifAlone_32 {p : Program} {l : Launch} {e : Env} {s : State} {m : MethodId} {args : Array Value} {below : List Frame} {meth : Method} {c : Code} {D : va_G} {cI cZ : ClassId} {ad : Nat → Nat} {v0 v1 v2 v3 v4 v5 v6 v7 v8 : Nat → Int32} (X : mX D cI cZ p s m args meth c cX5_ifAlone 4 (some .int)) (hI : mInj ad) {x1 : Int32} {x2 : Int32} {x3 : Int32} {y0 : Int32} {t : Int32 × (Nat → Int32) × (Nat → Int32) × (Nat → Int32) × (Nat → Int32) × (Nat → Int32)}  {H : Heap} {locs : List Loc} (hH : mH D cI cZ ad v0 v1 v2 v3 v4 v5 v6 v7 v8 s H locs) {ls : Array Slot} (hl : lv_has ls 4 [(0, .ref (ad 0)), (1, .int x1), (2, .int x2), (3, .int x3)]) (hf : f5_ifAlone_32 x1 x2 x3 y0 v0 v1 v2 v7 v8 = some t) : W p l e rm5_ifAlone s m args below meth c H locs 0 0 (MQ below (va_Qi (fun (r9 : Int32) (_ : Unit) => r9 = t.1) (fun _ t9 => mB D cI cZ ad t.2.1 t.2.2.1 t.2.2.2.1 v3 v4 v5 v6 t.2.2.2.2.1 t.2.2.2.2.2 t9) (mA ad s.heap.size)) args s 0 0 (mA ad s.heap.size)) (F0 m 32 ls [.int y0, .ref (ad 0)]) := by
  obtain ⟨⟨hx, hb, hml, hown, hts⟩, hr, hlk, hK⟩ := id X
  replace hf : (Option.bind (f5_refused_0 y0 v0) (fun t1 => if t1.1 = 0 then (Option.bind (f5_alone_0 x1 x2 x3 v1 v2 v7 v8) (fun t3 => some (t3.1, t1.2, t3.2.1, t3.2.2.1, t3.2.2.2.1, t3.2.2.2.2))) else (some (0, t1.2, v1, v2, v7, v8)))) = some t := hf
  obtain ⟨t1, ht1, hf⟩ := bd_o hf
  refine k5_refused X hI hH hl.1 qX5_50 ⟨Nat.le_of_ble_eq_true rfl, Nat.le_of_ble_eq_true rfl⟩ ht1 (Nat.le_of_ble_eq_true rfl) dX5_ifAlone_32 ⟨Nat.zero_le _, Nat.zero_le _⟩ (fun H locs hH => ?_)
  refine lv_if_eq (tgt := 40) hx hb dX5_ifAlone_35 (by decide) (fun c2 => ?_) (fun c2 => ?_)
  · have hf := it_t c2 hf
    refine lv_aload_n hx hb dX5_ifAlone_40 rfl (lv_at hl 0 rfl) ?_
    refine lv_iload_n hx hb dX5_ifAlone_41 rfl (lv_at hl 1 rfl) ?_
    refine lv_iload_n hx hb dX5_ifAlone_42 rfl (lv_at hl 2 rfl) ?_
    refine lv_iload_n hx hb dX5_ifAlone_43 rfl (lv_at hl 3 rfl) ?_
    obtain ⟨t3, ht3, hf⟩ := bd_o hf
    refine k5_alone X hI hH hl.1 qX5_194 ⟨Nat.le_of_ble_eq_true rfl, Nat.le_of_ble_eq_true rfl⟩ ht3 (Nat.le_of_ble_eq_true rfl) dX5_ifAlone_44 ⟨Nat.zero_le _, Nat.zero_le _⟩ (fun H locs hH => ?_)
    obtain rfl := so_i hf
    exact mr_iw X hH rfl dX5_ifAlone_47
  · have hf := it_f c2 hf
    refine lv_iconst (v := 0) hx hb dX5_ifAlone_38 (by decide) ?_
    obtain rfl := so_i hf
    exact mr_iw X hH rfl dX5_ifAlone_39
def f5_ifAlone_31 (x1 : Int32) (x2 : Int32) (x3 : Int32) (v0 : Nat → Int32) (v1 : Nat → Int32) (v2 : Nat → Int32) (v7 : Nat → Int32) (v8 : Nat → Int32) : Option (Int32 × (Nat → Int32) × (Nat → Int32) × (Nat → Int32) × (Nat → Int32) × (Nat → Int32)) := f5_ifAlone_32 x1 x2 x3 1 v0 v1 v2 v7 v8
set_option maxRecDepth 100000 in
set_option maxHeartbeats 4000000 in
theorem w5_ifAlone_31 {p : Program} {l : Launch} {e : Env} {s : State} {m : MethodId} {args : Array Value} {below : List Frame} {meth : Method} {c : Code} {D : va_G} {cI cZ : ClassId} {ad : Nat → Nat} {v0 v1 v2 v3 v4 v5 v6 v7 v8 : Nat → Int32} (X : mX D cI cZ p s m args meth c cX5_ifAlone 4 (some .int)) (hI : mInj ad) {x1 : Int32} {x2 : Int32} {x3 : Int32} {t : Int32 × (Nat → Int32) × (Nat → Int32) × (Nat → Int32) × (Nat → Int32) × (Nat → Int32)}  {H : Heap} {locs : List Loc} (hH : mH D cI cZ ad v0 v1 v2 v3 v4 v5 v6 v7 v8 s H locs) {ls : Array Slot} (hl : lv_has ls 4 [(0, .ref (ad 0)), (1, .int x1), (2, .int x2), (3, .int x3)]) (hf : f5_ifAlone_31 x1 x2 x3 v0 v1 v2 v7 v8 = some t) : W p l e rm5_ifAlone s m args below meth c H locs 0 0 (MQ below (va_Qi (fun (r9 : Int32) (_ : Unit) => r9 = t.1) (fun _ t9 => mB D cI cZ ad t.2.1 t.2.2.1 t.2.2.2.1 v3 v4 v5 v6 t.2.2.2.2.1 t.2.2.2.2.2 t9) (mA ad s.heap.size)) args s 0 0 (mA ad s.heap.size)) (F0 m 31 ls [.ref (ad 0)]) := by
  obtain ⟨⟨hx, hb, hml, hown, hts⟩, hr, hlk, hK⟩ := id X
  replace hf : (f5_ifAlone_32 x1 x2 x3 1 v0 v1 v2 v7 v8) = some t := hf
  refine lv_iconst (v := 1) hx hb dX5_ifAlone_31 (by decide) ?_
  exact w5_ifAlone_32 X hI hH (lv_sub hl [0, 1, 2, 3] rfl) hf
def f5_ifAlone_0 (x1 : Int32) (x2 : Int32) (x3 : Int32) (v0 : Nat → Int32) (v1 : Nat → Int32) (v2 : Nat → Int32) (v7 : Nat → Int32) (v8 : Nat → Int32) : Option (Int32 × (Nat → Int32) × (Nat → Int32) × (Nat → Int32) × (Nat → Int32) × (Nat → Int32)) := Option.bind (f5_in_0 x1 0 20) (fun t1 => if t1 = 0 then (f5_ifAlone_31 x1 x2 x3 v0 v1 v2 v7 v8) else (Option.bind (f5_isBrake_0 x2) (fun t3 => if t3 = 0 then (f5_ifAlone_31 x1 x2 x3 v0 v1 v2 v7 v8) else (Option.bind (f5_in_0 x3 0 4) (fun t5 => if t5 = 0 then (f5_ifAlone_31 x1 x2 x3 v0 v1 v2 v7 v8) else (f5_ifAlone_32 x1 x2 x3 0 v0 v1 v2 v7 v8))))))
set_option maxRecDepth 100000 in
set_option maxHeartbeats 4000000 in
theorem w5_ifAlone_0 {p : Program} {l : Launch} {e : Env} {s : State} {m : MethodId} {args : Array Value} {below : List Frame} {meth : Method} {c : Code} {D : va_G} {cI cZ : ClassId} {ad : Nat → Nat} {v0 v1 v2 v3 v4 v5 v6 v7 v8 : Nat → Int32} (X : mX D cI cZ p s m args meth c cX5_ifAlone 4 (some .int)) (hI : mInj ad) {x1 : Int32} {x2 : Int32} {x3 : Int32} {t : Int32 × (Nat → Int32) × (Nat → Int32) × (Nat → Int32) × (Nat → Int32) × (Nat → Int32)}  {H : Heap} {locs : List Loc} (hH : mH D cI cZ ad v0 v1 v2 v3 v4 v5 v6 v7 v8 s H locs) {ls : Array Slot} (hl : lv_has ls 4 [(0, .ref (ad 0)), (1, .int x1), (2, .int x2), (3, .int x3)]) (hf : f5_ifAlone_0 x1 x2 x3 v0 v1 v2 v7 v8 = some t) : W p l e rm5_ifAlone s m args below meth c H locs 0 0 (MQ below (va_Qi (fun (r9 : Int32) (_ : Unit) => r9 = t.1) (fun _ t9 => mB D cI cZ ad t.2.1 t.2.2.1 t.2.2.2.1 v3 v4 v5 v6 t.2.2.2.2.1 t.2.2.2.2.2 t9) (mA ad s.heap.size)) args s 0 0 (mA ad s.heap.size)) (F0 m 0 ls []) := by
  obtain ⟨⟨hx, hb, hml, hown, hts⟩, hr, hlk, hK⟩ := id X
  replace hf : (Option.bind (f5_in_0 x1 0 20) (fun t1 => if t1 = 0 then (f5_ifAlone_31 x1 x2 x3 v0 v1 v2 v7 v8) else (Option.bind (f5_isBrake_0 x2) (fun t3 => if t3 = 0 then (f5_ifAlone_31 x1 x2 x3 v0 v1 v2 v7 v8) else (Option.bind (f5_in_0 x3 0 4) (fun t5 => if t5 = 0 then (f5_ifAlone_31 x1 x2 x3 v0 v1 v2 v7 v8) else (f5_ifAlone_32 x1 x2 x3 0 v0 v1 v2 v7 v8))))))) = some t := hf
  refine lv_aload_n hx hb dX5_ifAlone_0 rfl (lv_at hl 0 rfl) ?_
  refine lv_iload_n hx hb dX5_ifAlone_1 rfl (lv_at hl 1 rfl) ?_
  refine lv_iconst (v := 0) hx hb dX5_ifAlone_2 (by decide) ?_
  refine lv_bipush (v := 20) hx hb dX5_ifAlone_3 (by decide) ?_
  obtain ⟨t1, ht1, hf⟩ := bd_o hf
  refine k5_in X.1 hl.1 qX5_39 ⟨Nat.le_of_ble_eq_true rfl, Nat.le_of_ble_eq_true rfl⟩ ht1 (Nat.le_of_ble_eq_true rfl) dX5_ifAlone_5 ⟨Nat.zero_le _, Nat.zero_le _⟩ ?_
  refine lv_if_eq (tgt := 31) hx hb dX5_ifAlone_8 (by decide) (fun c2 => ?_) (fun c2 => ?_)
  · have hf := it_t c2 hf
    exact w5_ifAlone_31 X hI hH (lv_sub hl [0, 1, 2, 3] rfl) hf
  · have hf := it_f c2 hf
    refine lv_iload_n hx hb dX5_ifAlone_11 rfl (lv_at hl 2 rfl) ?_
    obtain ⟨t3, ht3, hf⟩ := bd_o hf
    refine k5_isBrake X.1 hl.1 qX5_90 ⟨Nat.le_of_ble_eq_true rfl, Nat.le_of_ble_eq_true rfl⟩ ht3 (Nat.le_of_ble_eq_true rfl) dX5_ifAlone_12 ⟨Nat.zero_le _, Nat.zero_le _⟩ ?_
    refine lv_if_eq (tgt := 31) hx hb dX5_ifAlone_15 (by decide) (fun c4 => ?_) (fun c4 => ?_)
    · have hf := it_t c4 hf
      exact w5_ifAlone_31 X hI hH (lv_sub hl [0, 1, 2, 3] rfl) hf
    · have hf := it_f c4 hf
      refine lv_iload_n hx hb dX5_ifAlone_18 rfl (lv_at hl 3 rfl) ?_
      refine lv_iconst (v := 0) hx hb dX5_ifAlone_19 (by decide) ?_
      refine lv_iconst (v := 4) hx hb dX5_ifAlone_20 (by decide) ?_
      obtain ⟨t5, ht5, hf⟩ := bd_o hf
      refine k5_in X.1 hl.1 qX5_39 ⟨Nat.le_of_ble_eq_true rfl, Nat.le_of_ble_eq_true rfl⟩ ht5 (Nat.le_of_ble_eq_true rfl) dX5_ifAlone_21 ⟨Nat.zero_le _, Nat.zero_le _⟩ ?_
      refine lv_if_eq (tgt := 31) hx hb dX5_ifAlone_24 (by decide) (fun c6 => ?_) (fun c6 => ?_)
      · have hf := it_t c6 hf
        exact w5_ifAlone_31 X hI hH (lv_sub hl [0, 1, 2, 3] rfl) hf
      · have hf := it_f c6 hf
        refine lv_iconst (v := 0) hx hb dX5_ifAlone_27 (by decide) ?_
        refine lv_goto (tgt := 32) hx hb dX5_ifAlone_28 (by decide) ?_
        exact w5_ifAlone_32 X hI hH (lv_sub hl [0, 1, 2, 3] rfl) hf
set_option maxRecDepth 100000 in
set_option maxHeartbeats 4000000 in
theorem c5_ifAlone (l : Launch) {D : va_G} {cI cZ : ClassId} {ad : Nat → Nat} {v0 v1 v2 v3 v4 v5 v6 v7 v8 : Nat → Int32} (hI : mInj ad) (sz : Nat) (x1 : Int32) (x2 : Int32) (x3 : Int32) {t : Int32 × (Nat → Int32) × (Nat → Int32) × (Nat → Int32) × (Nat → Int32) × (Nat → Int32)} (hf : f5_ifAlone_0 x1 x2 x3 v0 v1 v2 v7 v8 = some t) : Met l yX5_ifAlone uX5_ifAlone rm5_ifAlone (va_Pc [.ref (ad 0), .int x1, .int x2, .int x3] (fun U => U.heap.size = sz ∧ mB D cI cZ ad v0 v1 v2 v3 v4 v5 v6 v7 v8 U)) (va_Qi (fun (r9 : Int32) (_ : Unit) => r9 = t.1) (fun _ t9 => mB D cI cZ ad t.2.1 t.2.2.1 t.2.2.2.1 v3 v4 v5 v6 t.2.2.2.2.1 t.2.2.2.2.2 t9) (mA ad sz)) 0 0 (mA ad sz) := by
  refine Met.ofW (cc := cX5_ifAlone) (maxL := 4) (ret := (some .int)) (by decide) rfl ?_
  intro p e s m args below meth c s₁ B hml hv
  obtain ⟨rfl, hsz, hP, hK⟩ := hv
  subst hsz
  have X : mX D cI cZ p s m ([.ref (ad 0), .int x1, .int x2, .int x3] : List Value).toArray meth c cX5_ifAlone 4 (some .int) := ⟨⟨B.exec, B.bytes, hml, findClass_of_methodNamed B.named, fun w h => atoms_spec (ws := uX5_ifAlone) B.pre w (List.mem_cons_of_mem _ h)⟩, B.returns, B.notSynchronized, hK⟩
  have hl := lv_entry ([.ref (ad 0), .int x1, .int x2, .int x3]) (n := 4) (Nat.le_of_ble_eq_true rfl)
  rw [lg_entry_eq]
  generalize (lg_sl ([.ref (ad 0), .int x1, .int x2, .int x3]) ++ List.replicate (4 - (lg_sl ([.ref (ad 0), .int x1, .int x2, .int x3])).length) Slot.unset).toArray = ls at hl ⊢
  have hl : lv_has ls 4 [(0, .ref (ad 0)), (1, .int x1), (2, .int x2), (3, .int x3)] := hl
  exact w5_ifAlone_0 X hI ⟨hP, va_S.rf⟩ (lv_sub hl [0, 1, 2, 3] rfl) hf
set_option maxRecDepth 100000 in
set_option maxHeartbeats 4000000 in
theorem k5_ifAlone {p : Program} {l : Launch} {e : Env} {R : Room} {s : State} {m : MethodId} {args : Array Value} {below : List Frame} {meth : Method} {c : Code} {cc : ByteArray} {nL : Nat} {ret : Option FieldType} {D : va_G} {cI cZ : ClassId} {ad : Nat → Nat} {v0 v1 v2 v3 v4 v5 v6 v7 v8 : Nat → Int32} {H : Heap} {locs : List Loc} {cells slots : Nat} {Q : State → Prop} {pc : Nat} {ls : Array Slot} {rest : List Value} (X : mX D cI cZ p s m args meth c cc nL ret) (hI : mInj ad) (hH : mH D cI cZ ad v0 v1 v2 v3 v4 v5 v6 v7 v8 s H locs) (hls : ls.size = nL) {index : Nat} (hG : GoodIn gw (wsV RX5 index RX5 yX5_ifAlone uX5_ifAlone)) (hR : rm5_ifAlone.frames + 1 ≤ R.frames ∧ 8 + (4 + 11) + rm5_ifAlone.locals ≤ R.locals) {x1 : Int32} {x2 : Int32} {x3 : Int32} {t : Int32 × (Nat → Int32) × (Nat → Int32) × (Nat → Int32) × (Nat → Int32) × (Nat → Int32)} (hf : f5_ifAlone_0 x1 x2 x3 v0 v1 v2 v7 v8 = some t) (hrest : (rest.map fun v => v.category).sum ≤ 8) (hdg : decode cc pc = .ok (.invokevirtual index, 3)) (hc : cells ≤ R.cells ∧ slots ≤ R.slots) (kk : ∀ (H1 : Heap) (locs1 : List Loc), mH D cI cZ ad t.2.1 t.2.2.1 t.2.2.2.1 v3 v4 v5 v6 t.2.2.2.2.1 t.2.2.2.2.2 s H1 locs1 → W p l e R s m args below meth c H1 locs1 cells slots Q (F0 m (pc + 3) ls (.int t.1 :: rest))) : W p l e R s m args below meth c H locs cells slots Q (F0 m pc ls (.int x3 :: .int x2 :: .int x1 :: .ref (ad 0) :: rest)) := by
  have hA : ∀ q, mA ad H.size q → mA ad s.heap.size q := fun q h => h.elim Or.inl (fun h => Or.inr (Nat.le_trans hH.2.1 h))
  refine va_calli (va_runV (As := [.int x1, .int x2, .int x3]) (rest := rest) X.1 (c5_ifAlone l hI H.size x1 x2 x3 hf) (cwV 3 X.1.2.2.2.2 hG rfl rfl rfl (by decide +kernel) hR) ⟨mBs_bl, va_recv X.2.2.2 hH.1 (ci := 5) (q0 := 0) rfl rfl, fun U hU hW => ⟨rfl, by rw [hU], by rw [hU]; exact hH.1, va_K.moved hW.alike X.2.2.2⟩⟩ rfl rfl hls rfl (lv_room hrest) hdg hc) hH.2 (fun q _ h => hA q h) hA (fun r9 u t9 H1 locs1 ht hvm hw hB hz1 hk1 hS => ?_)
  subst hw
  exact kk H1 locs1 ⟨by rw [← ht]; exact hB.1, hS⟩
/-! OreRailwayModel.leastBrake(I)I -/
def rm5_leastBrake : Room := { frames := 6, cells := 0, slots := 0, locals := 143 }
def f5_leastBrake_60 (K29 : Int32 → Int32 → Int32 → (Nat → Int32) → (Nat → Int32) → (Nat → Int32) → (Nat → Int32) → (Nat → Int32) → (Option (Int32 × (Nat → Int32) × (Nat → Int32) × (Nat → Int32) × (Nat → Int32) × (Nat → Int32)))) (x1 : Int32) (x3 : Int32) (y0 : Int32) (v0 : Nat → Int32) (v1 : Nat → Int32) (v2 : Nat → Int32) (v7 : Nat → Int32) (v8 : Nat → Int32) : Option (Int32 × (Nat → Int32) × (Nat → Int32) × (Nat → Int32) × (Nat → Int32) × (Nat → Int32)) := K29 x1 y0 (x3 + (-1)) v0 v1 v2 v7 v8
set_option maxRecDepth 100000 in
set_option maxHeartbeats 4000000 in
theorem w5_leastBrake_60 {p : Program} {l : Launch} {e : Env} {s : State} {m : MethodId} {args : Array Value} {below : List Frame} {meth : Method} {c : Code} {D : va_G} {cI cZ : ClassId} {ad : Nat → Nat} {v0 v1 v2 v3 v4 v5 v6 v7 v8 : Nat → Int32} (X : mX D cI cZ p s m args meth c cX5_leastBrake 4 (some .int)) (hI : mInj ad) {x1 : Int32} {x3 : Int32} {y0 : Int32} {t : Int32 × (Nat → Int32) × (Nat → Int32) × (Nat → Int32) × (Nat → Int32) × (Nat → Int32)} {K29 : Int32 → Int32 → Int32 → (Nat → Int32) → (Nat → Int32) → (Nat → Int32) → (Nat → Int32) → (Nat → Int32) → (Option (Int32 × (Nat → Int32) × (Nat → Int32) × (Nat → Int32) × (Nat → Int32) × (Nat → Int32)))} (hK29 : ∀ (x1 : Int32) (x2 : Int32) (x3 : Int32) (v0 : Nat → Int32) (v1 : Nat → Int32) (v2 : Nat → Int32) (v7 : Nat → Int32) (v8 : Nat → Int32) (H : Heap) (locs : List Loc), mH D cI cZ ad v0 v1 v2 v3 v4 v5 v6 v7 v8 s H locs → ∀ (ls : Array Slot), lv_has ls 4 [(0, .ref (ad 0)), (1, .int x1), (2, .int x2), (3, .int x3)] → K29 x1 x2 x3 v0 v1 v2 v7 v8 = some t → W p l e rm5_leastBrake s m args below meth c H locs 0 0 (MQ below (va_Qi (fun (r9 : Int32) (_ : Unit) => r9 = t.1) (fun _ t9 => mB D cI cZ ad t.2.1 t.2.2.1 t.2.2.2.1 v3 v4 v5 v6 t.2.2.2.2.1 t.2.2.2.2.2 t9) (mA ad s.heap.size)) args s 0 0 (mA ad s.heap.size)) (F0 m 29 ls []))  {H : Heap} {locs : List Loc} (hH : mH D cI cZ ad v0 v1 v2 v3 v4 v5 v6 v7 v8 s H locs) {ls : Array Slot} (hl : lv_has ls 4 [(0, .ref (ad 0)), (1, .int x1), (3, .int x3)]) (hf : f5_leastBrake_60 K29 x1 x3 y0 v0 v1 v2 v7 v8 = some t) : W p l e rm5_leastBrake s m args below meth c H locs 0 0 (MQ below (va_Qi (fun (r9 : Int32) (_ : Unit) => r9 = t.1) (fun _ t9 => mB D cI cZ ad t.2.1 t.2.2.1 t.2.2.2.1 v3 v4 v5 v6 t.2.2.2.2.1 t.2.2.2.2.2 t9) (mA ad s.heap.size)) args s 0 0 (mA ad s.heap.size)) (F0 m 60 ls [.int y0]) := by
  obtain ⟨⟨hx, hb, hml, hown, hts⟩, hr, hlk, hK⟩ := id X
  replace hf : (K29 x1 y0 (x3 + (-1)) v0 v1 v2 v7 v8) = some t := hf
  refine lv_istore_n (lv' := [(2, .int y0), (0, .ref (ad 0)), (1, .int x1), (3, .int x3)]) hx hb dX5_leastBrake_60 rfl hl (by decide) rfl (fun ls hl => ?_)
  refine lv_iinc (v := x3 + (-1)) (lv' := [(3, .int (x3 + (-1))), (2, .int y0), (0, .ref (ad 0)), (1, .int x1)]) hx hb dX5_leastBrake_61 hl (k := 3) rfl rfl (by decide) rfl (fun ls hl => ?_)
  refine lv_goto (tgt := 29) hx hb dX5_leastBrake_64 (by decide) ?_
  exact hK29 _ _ _ _ _ _ _ _ _ _ hH _ (lv_sub hl [2, 3, 1, 0] rfl) hf
def f5_leastBrake_59 (K29 : Int32 → Int32 → Int32 → (Nat → Int32) → (Nat → Int32) → (Nat → Int32) → (Nat → Int32) → (Nat → Int32) → (Option (Int32 × (Nat → Int32) × (Nat → Int32) × (Nat → Int32) × (Nat → Int32) × (Nat → Int32)))) (x1 : Int32) (x2 : Int32) (x3 : Int32) (v0 : Nat → Int32) (v1 : Nat → Int32) (v2 : Nat → Int32) (v7 : Nat → Int32) (v8 : Nat → Int32) : Option (Int32 × (Nat → Int32) × (Nat → Int32) × (Nat → Int32) × (Nat → Int32) × (Nat → Int32)) := f5_leastBrake_60 K29 x1 x3 x2 v0 v1 v2 v7 v8
set_option maxRecDepth 100000 in
set_option maxHeartbeats 4000000 in
theorem w5_leastBrake_59 {p : Program} {l : Launch} {e : Env} {s : State} {m : MethodId} {args : Array Value} {below : List Frame} {meth : Method} {c : Code} {D : va_G} {cI cZ : ClassId} {ad : Nat → Nat} {v0 v1 v2 v3 v4 v5 v6 v7 v8 : Nat → Int32} (X : mX D cI cZ p s m args meth c cX5_leastBrake 4 (some .int)) (hI : mInj ad) {x1 : Int32} {x2 : Int32} {x3 : Int32} {t : Int32 × (Nat → Int32) × (Nat → Int32) × (Nat → Int32) × (Nat → Int32) × (Nat → Int32)} {K29 : Int32 → Int32 → Int32 → (Nat → Int32) → (Nat → Int32) → (Nat → Int32) → (Nat → Int32) → (Nat → Int32) → (Option (Int32 × (Nat → Int32) × (Nat → Int32) × (Nat → Int32) × (Nat → Int32) × (Nat → Int32)))} (hK29 : ∀ (x1 : Int32) (x2 : Int32) (x3 : Int32) (v0 : Nat → Int32) (v1 : Nat → Int32) (v2 : Nat → Int32) (v7 : Nat → Int32) (v8 : Nat → Int32) (H : Heap) (locs : List Loc), mH D cI cZ ad v0 v1 v2 v3 v4 v5 v6 v7 v8 s H locs → ∀ (ls : Array Slot), lv_has ls 4 [(0, .ref (ad 0)), (1, .int x1), (2, .int x2), (3, .int x3)] → K29 x1 x2 x3 v0 v1 v2 v7 v8 = some t → W p l e rm5_leastBrake s m args below meth c H locs 0 0 (MQ below (va_Qi (fun (r9 : Int32) (_ : Unit) => r9 = t.1) (fun _ t9 => mB D cI cZ ad t.2.1 t.2.2.1 t.2.2.2.1 v3 v4 v5 v6 t.2.2.2.2.1 t.2.2.2.2.2 t9) (mA ad s.heap.size)) args s 0 0 (mA ad s.heap.size)) (F0 m 29 ls []))  {H : Heap} {locs : List Loc} (hH : mH D cI cZ ad v0 v1 v2 v3 v4 v5 v6 v7 v8 s H locs) {ls : Array Slot} (hl : lv_has ls 4 [(0, .ref (ad 0)), (1, .int x1), (2, .int x2), (3, .int x3)]) (hf : f5_leastBrake_59 K29 x1 x2 x3 v0 v1 v2 v7 v8 = some t) : W p l e rm5_leastBrake s m args below meth c H locs 0 0 (MQ below (va_Qi (fun (r9 : Int32) (_ : Unit) => r9 = t.1) (fun _ t9 => mB D cI cZ ad t.2.1 t.2.2.1 t.2.2.2.1 v3 v4 v5 v6 t.2.2.2.2.1 t.2.2.2.2.2 t9) (mA ad s.heap.size)) args s 0 0 (mA ad s.heap.size)) (F0 m 59 ls []) := by
  obtain ⟨⟨hx, hb, hml, hown, hts⟩, hr, hlk, hK⟩ := id X
  replace hf : (f5_leastBrake_60 K29 x1 x3 x2 v0 v1 v2 v7 v8) = some t := hf
  refine lv_iload_n hx hb dX5_leastBrake_59 rfl (lv_at hl 2 rfl) ?_
  exact w5_leastBrake_60 X hI (K29 := K29) hK29 hH (lv_sub hl [0, 1, 3] rfl) hf
def f5_leastBrake_29 : Nat → Int32 → Int32 → Int32 → (Nat → Int32) → (Nat → Int32) → (Nat → Int32) → (Nat → Int32) → (Nat → Int32) → Option (Int32 × (Nat → Int32) × (Nat → Int32) × (Nat → Int32) × (Nat → Int32) × (Nat → Int32))
  | 0, _, _, _, _, _, _, _, _ => none
  | n + 1, x1, x2, x3, v0, v1, v2, v7, v8 => if x3 < 0 then (some (x2, v0, v1, v2, v7, v8)) else (Option.bind (f5_alone_0 x1 x3 0 v1 v2 v7 v8) (fun t2 => if t2.1 = 2 then (Option.bind (f5_alone_0 x1 x3 2 t2.2.1 t2.2.2.1 t2.2.2.2.1 t2.2.2.2.2) (fun t4 => if t4.1 = x1 then (f5_leastBrake_60 (f5_leastBrake_29 n) x1 x3 x3 v0 t4.2.1 t4.2.2.1 t4.2.2.2.1 t4.2.2.2.2) else (f5_leastBrake_59 (f5_leastBrake_29 n) x1 x2 x3 v0 t4.2.1 t4.2.2.1 t4.2.2.2.1 t4.2.2.2.2))) else (f5_leastBrake_59 (f5_leastBrake_29 n) x1 x2 x3 v0 t2.2.1 t2.2.2.1 t2.2.2.2.1 t2.2.2.2.2)))
set_option maxRecDepth 100000 in
set_option maxHeartbeats 4000000 in
theorem w5_leastBrake_29 {p : Program} {l : Launch} {e : Env} {s : State} {m : MethodId} {args : Array Value} {below : List Frame} {meth : Method} {c : Code} {D : va_G} {cI cZ : ClassId} {ad : Nat → Nat} {v3 v4 v5 v6 : Nat → Int32} (X : mX D cI cZ p s m args meth c cX5_leastBrake 4 (some .int)) (hI : mInj ad) {t : Int32 × (Nat → Int32) × (Nat → Int32) × (Nat → Int32) × (Nat → Int32) × (Nat → Int32)} :
    ∀ (n : Nat) (x1 : Int32) (x2 : Int32) (x3 : Int32) (v0 : Nat → Int32) (v1 : Nat → Int32) (v2 : Nat → Int32) (v7 : Nat → Int32) (v8 : Nat → Int32) (H : Heap) (locs : List Loc), mH D cI cZ ad v0 v1 v2 v3 v4 v5 v6 v7 v8 s H locs → ∀ (ls : Array Slot), lv_has ls 4 [(0, .ref (ad 0)), (1, .int x1), (2, .int x2), (3, .int x3)] → f5_leastBrake_29 n x1 x2 x3 v0 v1 v2 v7 v8 = some t → W p l e rm5_leastBrake s m args below meth c H locs 0 0 (MQ below (va_Qi (fun (r9 : Int32) (_ : Unit) => r9 = t.1) (fun _ t9 => mB D cI cZ ad t.2.1 t.2.2.1 t.2.2.2.1 v3 v4 v5 v6 t.2.2.2.2.1 t.2.2.2.2.2 t9) (mA ad s.heap.size)) args s 0 0 (mA ad s.heap.size)) (F0 m 29 ls []) := by
  obtain ⟨⟨hx, hb, hml, hown, hts⟩, hr, hlk, hK⟩ := id X
  intro n
  induction n with
  | zero =>
    intro x1 x2 x3 v0 v1 v2 v7 v8 H locs hH ls hl hf
    cases hf
  | succ n ih =>
    intro x1 x2 x3 v0 v1 v2 v7 v8 H locs hH ls hl hf
    replace hf : (if x3 < 0 then (some (x2, v0, v1, v2, v7, v8)) else (Option.bind (f5_alone_0 x1 x3 0 v1 v2 v7 v8) (fun t2 => if t2.1 = 2 then (Option.bind (f5_alone_0 x1 x3 2 t2.2.1 t2.2.2.1 t2.2.2.2.1 t2.2.2.2.2) (fun t4 => if t4.1 = x1 then (f5_leastBrake_60 (f5_leastBrake_29 n) x1 x3 x3 v0 t4.2.1 t4.2.2.1 t4.2.2.2.1 t4.2.2.2.2) else (f5_leastBrake_59 (f5_leastBrake_29 n) x1 x2 x3 v0 t4.2.1 t4.2.2.1 t4.2.2.2.1 t4.2.2.2.2))) else (f5_leastBrake_59 (f5_leastBrake_29 n) x1 x2 x3 v0 t2.2.1 t2.2.2.1 t2.2.2.2.1 t2.2.2.2.2)))) = some t := hf
    refine lv_iload_n hx hb dX5_leastBrake_29 rfl (lv_at hl 3 rfl) ?_
    refine lv_if_lt (tgt := 67) hx hb dX5_leastBrake_30 (by decide) (fun c1 => ?_) (fun c1 => ?_)
    · have hf := it_t c1 hf
      refine lv_iload_n hx hb dX5_leastBrake_67 rfl (lv_at hl 2 rfl) ?_
      obtain rfl := so_i hf
      exact mr_iw X hH rfl dX5_leastBrake_68
    · have hf := it_f c1 hf
      refine lv_aload_n hx hb dX5_leastBrake_33 rfl (lv_at hl 0 rfl) ?_
      refine lv_iload_n hx hb dX5_leastBrake_34 rfl (lv_at hl 1 rfl) ?_
      refine lv_iload_n hx hb dX5_leastBrake_35 rfl (lv_at hl 3 rfl) ?_
      refine lv_iconst (v := 0) hx hb dX5_leastBrake_36 (by decide) ?_
      obtain ⟨t2, ht2, hf⟩ := bd_o hf
      refine k5_alone X hI hH hl.1 qX5_194 ⟨Nat.le_of_ble_eq_true rfl, Nat.le_of_ble_eq_true rfl⟩ ht2 (Nat.le_of_ble_eq_true rfl) dX5_leastBrake_37 ⟨Nat.zero_le _, Nat.zero_le _⟩ (fun H locs hH => ?_)
      refine lv_iconst (v := 2) hx hb dX5_leastBrake_40 (by decide) ?_
      refine lv_icmp_ne (tgt := 59) hx hb dX5_leastBrake_41 (by decide) (fun c3 => ?_) (fun c3 => ?_)
      · have hf := it_f c3 hf
        exact w5_leastBrake_59 X hI (K29 := (f5_leastBrake_29 n)) ih hH (lv_sub hl [0, 1, 2, 3] rfl) hf
      · have hf := it_t c3 hf
        refine lv_aload_n hx hb dX5_leastBrake_44 rfl (lv_at hl 0 rfl) ?_
        refine lv_iload_n hx hb dX5_leastBrake_45 rfl (lv_at hl 1 rfl) ?_
        refine lv_iload_n hx hb dX5_leastBrake_46 rfl (lv_at hl 3 rfl) ?_
        refine lv_iconst (v := 2) hx hb dX5_leastBrake_47 (by decide) ?_
        obtain ⟨t4, ht4, hf⟩ := bd_o hf
        refine k5_alone X hI hH hl.1 qX5_194 ⟨Nat.le_of_ble_eq_true rfl, Nat.le_of_ble_eq_true rfl⟩ ht4 (Nat.le_of_ble_eq_true rfl) dX5_leastBrake_48 ⟨Nat.zero_le _, Nat.zero_le _⟩ (fun H locs hH => ?_)
        refine lv_iload_n hx hb dX5_leastBrake_51 rfl (lv_at hl 1 rfl) ?_
        refine lv_icmp_ne (tgt := 59) hx hb dX5_leastBrake_52 (by decide) (fun c5 => ?_) (fun c5 => ?_)
        · have hf := it_f c5 hf
          exact w5_leastBrake_59 X hI (K29 := (f5_leastBrake_29 n)) ih hH (lv_sub hl [0, 1, 2, 3] rfl) hf
        · have hf := it_t c5 hf
          refine lv_iload_n hx hb dX5_leastBrake_55 rfl (lv_at hl 3 rfl) ?_
          refine lv_goto (tgt := 60) hx hb dX5_leastBrake_56 (by decide) ?_
          exact w5_leastBrake_60 X hI (K29 := (f5_leastBrake_29 n)) ih hH (lv_sub hl [0, 1, 3] rfl) hf
def f5_leastBrake_16 (x1 : Int32) (y0 : Int32) (v0 : Nat → Int32) (v1 : Nat → Int32) (v2 : Nat → Int32) (v7 : Nat → Int32) (v8 : Nat → Int32) : Option (Int32 × (Nat → Int32) × (Nat → Int32) × (Nat → Int32) × (Nat → Int32) × (Nat → Int32)) := Option.bind (f5_refused_0 y0 v0) (fun t1 => if t1.1 = 0 then (f5_leastBrake_29 fu x1 ((-1)) 9 t1.2 v1 v2 v7 v8) else (some (0, t1.2, v1, v2, v7, v8)))
set_option maxRecDepth 100000 in
set_option maxHeartbeats 4000000 in
theorem w5_leastBrake_16 {p : Program} {l : Launch} {e : Env} {s : State} {m : MethodId} {args : Array Value} {below : List Frame} {meth : Method} {c : Code} {D : va_G} {cI cZ : ClassId} {ad : Nat → Nat} {v0 v1 v2 v3 v4 v5 v6 v7 v8 : Nat → Int32} (X : mX D cI cZ p s m args meth c cX5_leastBrake 4 (some .int)) (hI : mInj ad) {x1 : Int32} {y0 : Int32} {t : Int32 × (Nat → Int32) × (Nat → Int32) × (Nat → Int32) × (Nat → Int32) × (Nat → Int32)}  {H : Heap} {locs : List Loc} (hH : mH D cI cZ ad v0 v1 v2 v3 v4 v5 v6 v7 v8 s H locs) {ls : Array Slot} (hl : lv_has ls 4 [(0, .ref (ad 0)), (1, .int x1)]) (hf : f5_leastBrake_16 x1 y0 v0 v1 v2 v7 v8 = some t) : W p l e rm5_leastBrake s m args below meth c H locs 0 0 (MQ below (va_Qi (fun (r9 : Int32) (_ : Unit) => r9 = t.1) (fun _ t9 => mB D cI cZ ad t.2.1 t.2.2.1 t.2.2.2.1 v3 v4 v5 v6 t.2.2.2.2.1 t.2.2.2.2.2 t9) (mA ad s.heap.size)) args s 0 0 (mA ad s.heap.size)) (F0 m 16 ls [.int y0, .ref (ad 0)]) := by
  obtain ⟨⟨hx, hb, hml, hown, hts⟩, hr, hlk, hK⟩ := id X
  replace hf : (Option.bind (f5_refused_0 y0 v0) (fun t1 => if t1.1 = 0 then (f5_leastBrake_29 fu x1 ((-1)) 9 t1.2 v1 v2 v7 v8) else (some (0, t1.2, v1, v2, v7, v8)))) = some t := hf
  obtain ⟨t1, ht1, hf⟩ := bd_o hf
  refine k5_refused X hI hH hl.1 qX5_50 ⟨Nat.le_of_ble_eq_true rfl, Nat.le_of_ble_eq_true rfl⟩ ht1 (Nat.le_of_ble_eq_true rfl) dX5_leastBrake_16 ⟨Nat.zero_le _, Nat.zero_le _⟩ (fun H locs hH => ?_)
  refine lv_if_eq (tgt := 24) hx hb dX5_leastBrake_19 (by decide) (fun c2 => ?_) (fun c2 => ?_)
  · have hf := it_t c2 hf
    refine lv_iconst (v := (-1)) hx hb dX5_leastBrake_24 (by decide) ?_
    refine lv_istore_n (lv' := [(2, .int ((-1))), (0, .ref (ad 0)), (1, .int x1)]) hx hb dX5_leastBrake_25 rfl hl (by decide) rfl (fun ls hl => ?_)
    refine lv_bipush (v := 9) hx hb dX5_leastBrake_26 (by decide) ?_
    refine lv_istore_n (lv' := [(3, .int 9), (2, .int ((-1))), (0, .ref (ad 0)), (1, .int x1)]) hx hb dX5_leastBrake_28 rfl hl (by decide) rfl (fun ls hl => ?_)
    exact w5_leastBrake_29 X hI _ _ _ _ _ _ _ _ _ _ _ hH _ (lv_sub hl [2, 3, 1, 0] rfl) hf
  · have hf := it_f c2 hf
    refine lv_iconst (v := 0) hx hb dX5_leastBrake_22 (by decide) ?_
    obtain rfl := so_i hf
    exact mr_iw X hH rfl dX5_leastBrake_23
def f5_leastBrake_0 (x1 : Int32) (v0 : Nat → Int32) (v1 : Nat → Int32) (v2 : Nat → Int32) (v7 : Nat → Int32) (v8 : Nat → Int32) : Option (Int32 × (Nat → Int32) × (Nat → Int32) × (Nat → Int32) × (Nat → Int32) × (Nat → Int32)) := Option.bind (f5_in_0 x1 0 20) (fun t1 => if t1 = 0 then (f5_leastBrake_16 x1 1 v0 v1 v2 v7 v8) else (f5_leastBrake_16 x1 0 v0 v1 v2 v7 v8))
set_option maxRecDepth 100000 in
set_option maxHeartbeats 4000000 in
theorem w5_leastBrake_0 {p : Program} {l : Launch} {e : Env} {s : State} {m : MethodId} {args : Array Value} {below : List Frame} {meth : Method} {c : Code} {D : va_G} {cI cZ : ClassId} {ad : Nat → Nat} {v0 v1 v2 v3 v4 v5 v6 v7 v8 : Nat → Int32} (X : mX D cI cZ p s m args meth c cX5_leastBrake 4 (some .int)) (hI : mInj ad) {x1 : Int32} {t : Int32 × (Nat → Int32) × (Nat → Int32) × (Nat → Int32) × (Nat → Int32) × (Nat → Int32)}  {H : Heap} {locs : List Loc} (hH : mH D cI cZ ad v0 v1 v2 v3 v4 v5 v6 v7 v8 s H locs) {ls : Array Slot} (hl : lv_has ls 4 [(0, .ref (ad 0)), (1, .int x1)]) (hf : f5_leastBrake_0 x1 v0 v1 v2 v7 v8 = some t) : W p l e rm5_leastBrake s m args below meth c H locs 0 0 (MQ below (va_Qi (fun (r9 : Int32) (_ : Unit) => r9 = t.1) (fun _ t9 => mB D cI cZ ad t.2.1 t.2.2.1 t.2.2.2.1 v3 v4 v5 v6 t.2.2.2.2.1 t.2.2.2.2.2 t9) (mA ad s.heap.size)) args s 0 0 (mA ad s.heap.size)) (F0 m 0 ls []) := by
  obtain ⟨⟨hx, hb, hml, hown, hts⟩, hr, hlk, hK⟩ := id X
  replace hf : (Option.bind (f5_in_0 x1 0 20) (fun t1 => if t1 = 0 then (f5_leastBrake_16 x1 1 v0 v1 v2 v7 v8) else (f5_leastBrake_16 x1 0 v0 v1 v2 v7 v8))) = some t := hf
  refine lv_aload_n hx hb dX5_leastBrake_0 rfl (lv_at hl 0 rfl) ?_
  refine lv_iload_n hx hb dX5_leastBrake_1 rfl (lv_at hl 1 rfl) ?_
  refine lv_iconst (v := 0) hx hb dX5_leastBrake_2 (by decide) ?_
  refine lv_bipush (v := 20) hx hb dX5_leastBrake_3 (by decide) ?_
  obtain ⟨t1, ht1, hf⟩ := bd_o hf
  refine k5_in X.1 hl.1 qX5_39 ⟨Nat.le_of_ble_eq_true rfl, Nat.le_of_ble_eq_true rfl⟩ ht1 (Nat.le_of_ble_eq_true rfl) dX5_leastBrake_5 ⟨Nat.zero_le _, Nat.zero_le _⟩ ?_
  refine lv_if_eq (tgt := 15) hx hb dX5_leastBrake_8 (by decide) (fun c2 => ?_) (fun c2 => ?_)
  · have hf := it_t c2 hf
    refine lv_iconst (v := 1) hx hb dX5_leastBrake_15 (by decide) ?_
    exact w5_leastBrake_16 X hI hH (lv_sub hl [0, 1] rfl) hf
  · have hf := it_f c2 hf
    refine lv_iconst (v := 0) hx hb dX5_leastBrake_11 (by decide) ?_
    refine lv_goto (tgt := 16) hx hb dX5_leastBrake_12 (by decide) ?_
    exact w5_leastBrake_16 X hI hH (lv_sub hl [0, 1] rfl) hf
set_option maxRecDepth 100000 in
set_option maxHeartbeats 4000000 in
theorem c5_leastBrake (l : Launch) {D : va_G} {cI cZ : ClassId} {ad : Nat → Nat} {v0 v1 v2 v3 v4 v5 v6 v7 v8 : Nat → Int32} (hI : mInj ad) (sz : Nat) (x1 : Int32) {t : Int32 × (Nat → Int32) × (Nat → Int32) × (Nat → Int32) × (Nat → Int32) × (Nat → Int32)} (hf : f5_leastBrake_0 x1 v0 v1 v2 v7 v8 = some t) : Met l yX5_leastBrake uX5_leastBrake rm5_leastBrake (va_Pc [.ref (ad 0), .int x1] (fun U => U.heap.size = sz ∧ mB D cI cZ ad v0 v1 v2 v3 v4 v5 v6 v7 v8 U)) (va_Qi (fun (r9 : Int32) (_ : Unit) => r9 = t.1) (fun _ t9 => mB D cI cZ ad t.2.1 t.2.2.1 t.2.2.2.1 v3 v4 v5 v6 t.2.2.2.2.1 t.2.2.2.2.2 t9) (mA ad sz)) 0 0 (mA ad sz) := by
  refine Met.ofW (cc := cX5_leastBrake) (maxL := 4) (ret := (some .int)) (by decide) rfl ?_
  intro p e s m args below meth c s₁ B hml hv
  obtain ⟨rfl, hsz, hP, hK⟩ := hv
  subst hsz
  have X : mX D cI cZ p s m ([.ref (ad 0), .int x1] : List Value).toArray meth c cX5_leastBrake 4 (some .int) := ⟨⟨B.exec, B.bytes, hml, findClass_of_methodNamed B.named, fun w h => atoms_spec (ws := uX5_leastBrake) B.pre w (List.mem_cons_of_mem _ h)⟩, B.returns, B.notSynchronized, hK⟩
  have hl := lv_entry ([.ref (ad 0), .int x1]) (n := 4) (Nat.le_of_ble_eq_true rfl)
  rw [lg_entry_eq]
  generalize (lg_sl ([.ref (ad 0), .int x1]) ++ List.replicate (4 - (lg_sl ([.ref (ad 0), .int x1])).length) Slot.unset).toArray = ls at hl ⊢
  have hl : lv_has ls 4 [(0, .ref (ad 0)), (1, .int x1)] := hl
  exact w5_leastBrake_0 X hI ⟨hP, va_S.rf⟩ (lv_sub hl [0, 1] rfl) hf
set_option maxRecDepth 100000 in
set_option maxHeartbeats 4000000 in
theorem k5_leastBrake {p : Program} {l : Launch} {e : Env} {R : Room} {s : State} {m : MethodId} {args : Array Value} {below : List Frame} {meth : Method} {c : Code} {cc : ByteArray} {nL : Nat} {ret : Option FieldType} {D : va_G} {cI cZ : ClassId} {ad : Nat → Nat} {v0 v1 v2 v3 v4 v5 v6 v7 v8 : Nat → Int32} {H : Heap} {locs : List Loc} {cells slots : Nat} {Q : State → Prop} {pc : Nat} {ls : Array Slot} {rest : List Value} (X : mX D cI cZ p s m args meth c cc nL ret) (hI : mInj ad) (hH : mH D cI cZ ad v0 v1 v2 v3 v4 v5 v6 v7 v8 s H locs) (hls : ls.size = nL) {index : Nat} (hG : GoodIn gw (wsV RX5 index RX5 yX5_leastBrake uX5_leastBrake)) (hR : rm5_leastBrake.frames + 1 ≤ R.frames ∧ 8 + (4 + 11) + rm5_leastBrake.locals ≤ R.locals) {x1 : Int32} {t : Int32 × (Nat → Int32) × (Nat → Int32) × (Nat → Int32) × (Nat → Int32) × (Nat → Int32)} (hf : f5_leastBrake_0 x1 v0 v1 v2 v7 v8 = some t) (hrest : (rest.map fun v => v.category).sum ≤ 8) (hdg : decode cc pc = .ok (.invokevirtual index, 3)) (hc : cells ≤ R.cells ∧ slots ≤ R.slots) (kk : ∀ (H1 : Heap) (locs1 : List Loc), mH D cI cZ ad t.2.1 t.2.2.1 t.2.2.2.1 v3 v4 v5 v6 t.2.2.2.2.1 t.2.2.2.2.2 s H1 locs1 → W p l e R s m args below meth c H1 locs1 cells slots Q (F0 m (pc + 3) ls (.int t.1 :: rest))) : W p l e R s m args below meth c H locs cells slots Q (F0 m pc ls (.int x1 :: .ref (ad 0) :: rest)) := by
  have hA : ∀ q, mA ad H.size q → mA ad s.heap.size q := fun q h => h.elim Or.inl (fun h => Or.inr (Nat.le_trans hH.2.1 h))
  refine va_calli (va_runV (As := [.int x1]) (rest := rest) X.1 (c5_leastBrake l hI H.size x1 hf) (cwV 1 X.1.2.2.2.2 hG rfl rfl rfl (by decide +kernel) hR) ⟨mBs_bl, va_recv X.2.2.2 hH.1 (ci := 5) (q0 := 0) rfl rfl, fun U hU hW => ⟨rfl, by rw [hU], by rw [hU]; exact hH.1, va_K.moved hW.alike X.2.2.2⟩⟩ rfl rfl hls rfl (lv_room hrest) hdg hc) hH.2 (fun q _ h => hA q h) hA (fun r9 u t9 H1 locs1 ht hvm hw hB hz1 hk1 hS => ?_)
  subst hw
  exact kk H1 locs1 ⟨by rw [← ht]; exact hB.1, hS⟩
/-! OreRailwayModel.allBumps()I -/
def rm5_allBumps : Room := { frames := 1, cells := 0, slots := 0, locals := 21 }
def f5_allBumps_4 (v1 : Nat → Int32) : Nat → Int32 → Int32 → Option (Int32)
  | 0, _, _ => none
  | n + 1, x1, x2 => gd 162 171 (if (v1 (Int32.toNatClampNeg 162)) ≤ x2 then (some x1) else (gd (e5_of x2 7) 171 ((f5_allBumps_4 v1 n) (x1 + (v1 (Int32.toNatClampNeg (e5_of x2 7)))) (x2 + 1))))
set_option maxRecDepth 100000 in
set_option maxHeartbeats 4000000 in
theorem w5_allBumps_4 {p : Program} {l : Launch} {e : Env} {s : State} {m : MethodId} {args : Array Value} {below : List Frame} {meth : Method} {c : Code} {D : va_G} {cI cZ : ClassId} {ad : Nat → Nat} {v0 v1 v2 v3 v4 v5 v6 v7 v8 : Nat → Int32} (X : mX D cI cZ p s m args meth c cX5_allBumps 3 (some .int)) (hP : va_P D vwCl (mwW cI cZ ad v0 v1 v2 v3 v4 v5 v6 v7 v8) s.heap) {t : Int32} :
    ∀ (n : Nat) (x1 : Int32) (x2 : Int32) (ls : Array Slot), lv_has ls 3 [(0, .ref (ad 0)), (1, .int x1), (2, .int x2)] → f5_allBumps_4 v1 n x1 x2 = some t → W p l e rm5_allBumps s m args below meth c s.heap [] 0 0 (MQ below (QcRead t) args s 0 0 (fun _ => False)) (F0 m 4 ls []) := by
  obtain ⟨⟨hx, hb, hml, hown, hts⟩, hr, hlk, hK⟩ := id X
  intro n
  induction n with
  | zero =>
    intro x1 x2 ls hl hf
    cases hf
  | succ n ih =>
    intro x1 x2 ls hl hf
    replace hf : (gd 162 171 (if (v1 (Int32.toNatClampNeg 162)) ≤ x2 then (some x1) else (gd (e5_of x2 7) 171 ((f5_allBumps_4 v1 n) (x1 + (v1 (Int32.toNatClampNeg (e5_of x2 7)))) (x2 + 1))))) = some t := hf
    refine lv_iload_n hx hb dX5_allBumps_4 rfl (lv_at hl 2 rfl) ?_
    refine lv_aload_n hx hb dX5_allBumps_5 rfl (lv_at hl 0 rfl) ?_
    refine mr_get X hP (k := 0) (v := .ref (ad 1)) (by decide) gfX5_7 rfl dX5_allBumps_6 ?_
    refine lv_sipush (v := 162) hx hb dX5_allBumps_9 (by decide) ?_
    obtain ⟨hi1, hf⟩ := gd_o hf
    refine mr_ld1 X hP hi1 dX5_allBumps_12 ?_
    refine lv_icmp_ge (tgt := 36) hx hb dX5_allBumps_13 (by decide) (fun c2 => ?_) (fun c2 => ?_)
    · have hf := it_t c2 hf
      refine lv_iload_n hx hb dX5_allBumps_36 rfl (lv_at hl 1 rfl) ?_
      obtain rfl := so_i hf
      exact rd_i hx hb hr hlk dX5_allBumps_37
    · have hf := it_f c2 hf
      refine lv_iload_n hx hb dX5_allBumps_16 rfl (lv_at hl 1 rfl) ?_
      refine lv_aload_n hx hb dX5_allBumps_17 rfl (lv_at hl 0 rfl) ?_
      refine mr_get X hP (k := 0) (v := .ref (ad 1)) (by decide) gfX5_7 rfl dX5_allBumps_18 ?_
      refine lv_iload_n hx hb dX5_allBumps_21 rfl (lv_at hl 2 rfl) ?_
      refine lv_bipush (v := 7) hx hb dX5_allBumps_22 (by decide) ?_
      refine k5_of X.1 hl.1 qX5_43 ⟨Nat.le_of_ble_eq_true rfl, Nat.le_of_ble_eq_true rfl⟩ (Nat.le_of_ble_eq_true rfl) dX5_allBumps_24 ⟨Nat.zero_le _, Nat.zero_le _⟩ ?_
      obtain ⟨hi3, hf⟩ := gd_o hf
      refine mr_ld1 X hP hi3 dX5_allBumps_27 ?_
      refine lv_iadd hx hb dX5_allBumps_28 ?_
      refine lv_istore_n (lv' := [(1, .int (x1 + (v1 (Int32.toNatClampNeg (e5_of x2 7))))), (0, .ref (ad 0)), (2, .int x2)]) hx hb dX5_allBumps_29 rfl hl (by decide) rfl (fun ls hl => ?_)
      refine lv_iinc (v := x2 + 1) (lv' := [(2, .int (x2 + 1)), (1, .int (x1 + (v1 (Int32.toNatClampNeg (e5_of x2 7))))), (0, .ref (ad 0))]) hx hb dX5_allBumps_30 hl (k := 2) rfl rfl (by decide) rfl (fun ls hl => ?_)
      refine lv_goto (tgt := 4) hx hb dX5_allBumps_33 (by decide) ?_
      exact ih _ _ _ (lv_sub hl [2, 1, 0] rfl) hf
def f5_allBumps_0 (v1 : Nat → Int32) : Option (Int32) := f5_allBumps_4 v1 fu 0 0
set_option maxRecDepth 100000 in
set_option maxHeartbeats 4000000 in
theorem w5_allBumps_0 {p : Program} {l : Launch} {e : Env} {s : State} {m : MethodId} {args : Array Value} {below : List Frame} {meth : Method} {c : Code} {D : va_G} {cI cZ : ClassId} {ad : Nat → Nat} {v0 v1 v2 v3 v4 v5 v6 v7 v8 : Nat → Int32} (X : mX D cI cZ p s m args meth c cX5_allBumps 3 (some .int)) (hP : va_P D vwCl (mwW cI cZ ad v0 v1 v2 v3 v4 v5 v6 v7 v8) s.heap) {t : Int32}  {ls : Array Slot} (hl : lv_has ls 3 [(0, .ref (ad 0))]) (hf : f5_allBumps_0 v1  = some t) : W p l e rm5_allBumps s m args below meth c s.heap [] 0 0 (MQ below (QcRead t) args s 0 0 (fun _ => False)) (F0 m 0 ls []) := by
  obtain ⟨⟨hx, hb, hml, hown, hts⟩, hr, hlk, hK⟩ := id X
  replace hf : (f5_allBumps_4 v1 fu 0 0) = some t := hf
  refine lv_iconst (v := 0) hx hb dX5_allBumps_0 (by decide) ?_
  refine lv_istore_n (lv' := [(1, .int 0), (0, .ref (ad 0))]) hx hb dX5_allBumps_1 rfl hl (by decide) rfl (fun ls hl => ?_)
  refine lv_iconst (v := 0) hx hb dX5_allBumps_2 (by decide) ?_
  refine lv_istore_n (lv' := [(2, .int 0), (1, .int 0), (0, .ref (ad 0))]) hx hb dX5_allBumps_3 rfl hl (by decide) rfl (fun ls hl => ?_)
  exact w5_allBumps_4 X hP _ _ _ _ (lv_sub hl [2, 1, 0] rfl) hf
set_option maxRecDepth 100000 in
set_option maxHeartbeats 4000000 in
theorem c5_allBumps (l : Launch) {D : va_G} {cI cZ : ClassId} {ad : Nat → Nat} {v0 v1 v2 v3 v4 v5 v6 v7 v8 : Nat → Int32} {t : Int32} (hf : f5_allBumps_0 v1 = some t) : Met l yX5_allBumps uX5_allBumps rm5_allBumps (va_Pc [.ref (ad 0)] (mB D cI cZ ad v0 v1 v2 v3 v4 v5 v6 v7 v8)) (QcRead t) 0 0 (fun _ => False) := by
  refine Met.ofW (cc := cX5_allBumps) (maxL := 3) (ret := (some .int)) (by decide) rfl ?_
  intro p e s m args below meth c s₁ B hml hv
  obtain ⟨rfl, hP, hK⟩ := hv
  have X : mX D cI cZ p s m ([.ref (ad 0)] : List Value).toArray meth c cX5_allBumps 3 (some .int) := ⟨⟨B.exec, B.bytes, hml, findClass_of_methodNamed B.named, fun w h => atoms_spec (ws := uX5_allBumps) B.pre w (List.mem_cons_of_mem _ h)⟩, B.returns, B.notSynchronized, hK⟩
  have hl := lv_entry ([.ref (ad 0)]) (n := 3) (Nat.le_of_ble_eq_true rfl)
  rw [lg_entry_eq]
  generalize (lg_sl ([.ref (ad 0)]) ++ List.replicate (3 - (lg_sl ([.ref (ad 0)])).length) Slot.unset).toArray = ls at hl ⊢
  have hl : lv_has ls 3 [(0, .ref (ad 0))] := hl
  exact w5_allBumps_0 X hP (lv_sub hl [0] rfl) hf
set_option maxRecDepth 100000 in
set_option maxHeartbeats 4000000 in
theorem k5_allBumps {p : Program} {l : Launch} {e : Env} {R : Room} {s : State} {m : MethodId} {args : Array Value} {below : List Frame} {meth : Method} {c : Code} {cc : ByteArray} {nL : Nat} {ret : Option FieldType} {D : va_G} {cI cZ : ClassId} {ad : Nat → Nat} {v0 v1 v2 v3 v4 v5 v6 v7 v8 : Nat → Int32} {H : Heap} {locs : List Loc} {cells slots : Nat} {Q : State → Prop} {pc : Nat} {ls : Array Slot} {rest : List Value} (X : mX D cI cZ p s m args meth c cc nL ret) (hP : va_P D vwCl (mwW cI cZ ad v0 v1 v2 v3 v4 v5 v6 v7 v8) H) (hls : ls.size = nL) {index : Nat} (hG : GoodIn gw (wsV RX5 index RX5 yX5_allBumps uX5_allBumps)) (hR : rm5_allBumps.frames + 1 ≤ R.frames ∧ 8 + (3 + 11) + rm5_allBumps.locals ≤ R.locals) {t : Int32} (hf : f5_allBumps_0 v1 = some t) (hrest : (rest.map fun v => v.category).sum ≤ 8) (hdg : decode cc pc = .ok (.invokevirtual index, 3)) (hc : cells ≤ R.cells ∧ slots ≤ R.slots) (kk : W p l e R s m args below meth c H locs cells slots Q (F0 m (pc + 3) ls (.int t :: rest))) : W p l e R s m args below meth c H locs cells slots Q (F0 m pc ls (.ref (ad 0) :: rest)) :=
  W.callR (W.runV (As := []) X.1 (c5_allBumps l hf) (cwV 0 X.1.2.2.2.2 hG rfl rfl rfl (by decide +kernel) hR) ⟨mB_bl, va_recv X.2.2.2 hP (ci := 5) (q0 := 0) rfl rfl, fun U hU hW => ⟨rfl, by rw [hU]; exact hP, va_K.moved hW.alike X.2.2.2⟩⟩ rfl rfl hls rfl (lv_room hrest) hdg hc) kk
/-! OreRailwayModel.ifRun(II)I -/
def rm5_ifRun : Room := { frames := 6, cells := 0, slots := 0, locals := 140 }
def f5_ifRun_122 (y0 : Int32) (v0 : Nat → Int32) (v1 : Nat → Int32) (v2 : Nat → Int32) (v7 : Nat → Int32) (v8 : Nat → Int32) : Option (Int32 × (Nat → Int32) × (Nat → Int32) × (Nat → Int32) × (Nat → Int32) × (Nat → Int32)) := Option.bind (f5_putBack_0 v2 v1) (fun t1 => some (y0, v0, t1, v2, v7, v8))
set_option maxRecDepth 100000 in
set_option maxHeartbeats 4000000 in
theorem w5_ifRun_122 {p : Program} {l : Launch} {e : Env} {s : State} {m : MethodId} {args : Array Value} {below : List Frame} {meth : Method} {c : Code} {D : va_G} {cI cZ : ClassId} {ad : Nat → Nat} {v0 v1 v2 v3 v4 v5 v6 v7 v8 : Nat → Int32} (X : mX D cI cZ p s m args meth c cX5_ifRun 7 (some .int)) (hI : mInj ad) {y0 : Int32} {t : Int32 × (Nat → Int32) × (Nat → Int32) × (Nat → Int32) × (Nat → Int32) × (Nat → Int32)}  {H : Heap} {locs : List Loc} (hH : mH D cI cZ ad v0 v1 v2 v3 v4 v5 v6 v7 v8 s H locs) {ls : Array Slot} (hl : lv_has ls 7 [(0, .ref (ad 0))]) (hf : f5_ifRun_122 y0 v0 v1 v2 v7 v8 = some t) : W p l e rm5_ifRun s m args below meth c H locs 0 0 (MQ below (va_Qi (fun (r9 : Int32) (_ : Unit) => r9 = t.1) (fun _ t9 => mB D cI cZ ad t.2.1 t.2.2.1 t.2.2.2.1 v3 v4 v5 v6 t.2.2.2.2.1 t.2.2.2.2.2 t9) (mA ad s.heap.size)) args s 0 0 (mA ad s.heap.size)) (F0 m 122 ls [.int y0]) := by
  obtain ⟨⟨hx, hb, hml, hown, hts⟩, hr, hlk, hK⟩ := id X
  replace hf : (Option.bind (f5_putBack_0 v2 v1) (fun t1 => some (y0, v0, t1, v2, v7, v8))) = some t := hf
  refine lv_istore (lv' := [(6, .int y0), (0, .ref (ad 0))]) hx hb dX5_ifRun_122 hl (by decide) rfl (fun ls hl => ?_)
  refine lv_aload_n hx hb dX5_ifRun_124 rfl (lv_at hl 1 rfl) ?_
  obtain ⟨t1, ht1, hf⟩ := bd_o hf
  refine k5_putBack X hI hH hl.1 qX5_191 ⟨Nat.le_of_ble_eq_true rfl, Nat.le_of_ble_eq_true rfl⟩ ht1 (Nat.le_of_ble_eq_true rfl) dX5_ifRun_125 ⟨Nat.zero_le _, Nat.zero_le _⟩ (fun H locs hH => ?_)
  refine lv_iload hx hb dX5_ifRun_128 (lv_at hl 0 rfl) ?_
  obtain rfl := so_i hf
  exact mr_iw X hH rfl dX5_ifRun_130
def f5_ifRun_26 (x1 : Int32) (x2 : Int32) (y0 : Int32) (v0 : Nat → Int32) (v1 : Nat → Int32) (v2 : Nat → Int32) (v7 : Nat → Int32) (v8 : Nat → Int32) : Option (Int32 × (Nat → Int32) × (Nat → Int32) × (Nat → Int32) × (Nat → Int32) × (Nat → Int32)) := Option.bind (f5_refused_0 y0 v0) (fun t1 => if t1.1 = 0 then (Option.bind (f5_putAside_0 v1 v2) (fun t3 => gd 166 171 (Option.bind (f5_allBumps_0 v1) (fun t5 => Option.bind (f5_runs_0 x1 v1 v7 v8) (fun t6 => if x2 = 0 then (f5_ifRun_122 t6.1 t1.2 t6.2.1 t3 t6.2.2.1 t6.2.2.2) else (if x2 = 1 then (gd 166 171 (f5_ifRun_122 ((t6.2.1 (Int32.toNatClampNeg 166)) - (v1 (Int32.toNatClampNeg 166))) t1.2 t6.2.1 t3 t6.2.2.1 t6.2.2.2)) else (if x2 = 2 then (Option.bind (f5_carsAt_0 t6.2.1 3 ((-1))) (fun t13 => f5_ifRun_122 t13 t1.2 t6.2.1 t3 t6.2.2.1 t6.2.2.2)) else (if x2 = 3 then (Option.bind (f5_allBumps_0 t6.2.1) (fun t12 => f5_ifRun_122 (t12 - t5) t1.2 t6.2.1 t3 t6.2.2.1 t6.2.2.2)) else (Option.bind (f5_carsAt_0 t6.2.1 1 ((-1))) (fun t11 => f5_ifRun_122 t11 t1.2 t6.2.1 t3 t6.2.2.1 t6.2.2.2)))))))))) else (some (0, t1.2, v1, v2, v7, v8)))
set_option maxRecDepth 100000 in
set_option maxHeartbeats 4000000 in
theorem w5_ifRun_26 {p : Program} {l : Launch} {e : Env} {s : State} {m : MethodId} {args : Array Value} {below : List Frame} {meth : Method} {c : Code} {D : va_G} {cI cZ : ClassId} {ad : Nat → Nat} {v0 v1 v2 v3 v4 v5 v6 v7 v8 : Nat → Int32} (X : mX D cI cZ p s m args meth c cX5_ifRun 7 (some .int)) (hI : mInj ad) {x1 : Int32} {x2 : Int32} {y0 : Int32} {t : Int32 × (Nat → Int32) × (Nat → Int32) × (Nat → Int32) × (Nat → Int32) × (Nat → Int32)}  {H : Heap} {locs : List Loc} (hH : mH D cI cZ ad v0 v1 v2 v3 v4 v5 v6 v7 v8 s H locs) {ls : Array Slot} (hl : lv_has ls 7 [(0, .ref (ad 0)), (1, .int x1), (2, .int x2)]) (hf : f5_ifRun_26 x1 x2 y0 v0 v1 v2 v7 v8 = some t) : W p l e rm5_ifRun s m args below meth c H locs 0 0 (MQ below (va_Qi (fun (r9 : Int32) (_ : Unit) => r9 = t.1) (fun _ t9 => mB D cI cZ ad t.2.1 t.2.2.1 t.2.2.2.1 v3 v4 v5 v6 t.2.2.2.2.1 t.2.2.2.2.2 t9) (mA ad s.heap.size)) args s 0 0 (mA ad s.heap.size)) (F0 m 26 ls [.int y0, .ref (ad 0)]) := by
  obtain ⟨⟨hx, hb, hml, hown, hts⟩, hr, hlk, hK⟩ := id X
  replace hf : (Option.bind (f5_refused_0 y0 v0) (fun t1 => if t1.1 = 0 then (Option.bind (f5_putAside_0 v1 v2) (fun t3 => gd 166 171 (Option.bind (f5_allBumps_0 v1) (fun t5 => Option.bind (f5_runs_0 x1 v1 v7 v8) (fun t6 => if x2 = 0 then (f5_ifRun_122 t6.1 t1.2 t6.2.1 t3 t6.2.2.1 t6.2.2.2) else (if x2 = 1 then (gd 166 171 (f5_ifRun_122 ((t6.2.1 (Int32.toNatClampNeg 166)) - (v1 (Int32.toNatClampNeg 166))) t1.2 t6.2.1 t3 t6.2.2.1 t6.2.2.2)) else (if x2 = 2 then (Option.bind (f5_carsAt_0 t6.2.1 3 ((-1))) (fun t13 => f5_ifRun_122 t13 t1.2 t6.2.1 t3 t6.2.2.1 t6.2.2.2)) else (if x2 = 3 then (Option.bind (f5_allBumps_0 t6.2.1) (fun t12 => f5_ifRun_122 (t12 - t5) t1.2 t6.2.1 t3 t6.2.2.1 t6.2.2.2)) else (Option.bind (f5_carsAt_0 t6.2.1 1 ((-1))) (fun t11 => f5_ifRun_122 t11 t1.2 t6.2.1 t3 t6.2.2.1 t6.2.2.2)))))))))) else (some (0, t1.2, v1, v2, v7, v8)))) = some t := hf
  obtain ⟨t1, ht1, hf⟩ := bd_o hf
  refine k5_refused X hI hH hl.1 qX5_50 ⟨Nat.le_of_ble_eq_true rfl, Nat.le_of_ble_eq_true rfl⟩ ht1 (Nat.le_of_ble_eq_true rfl) dX5_ifRun_26 ⟨Nat.zero_le _, Nat.zero_le _⟩ (fun H locs hH => ?_)
  refine lv_if_eq (tgt := 34) hx hb dX5_ifRun_29 (by decide) (fun c2 => ?_) (fun c2 => ?_)
  · have hf := it_t c2 hf
    refine lv_aload_n hx hb dX5_ifRun_34 rfl (lv_at hl 0 rfl) ?_
    obtain ⟨t3, ht3, hf⟩ := bd_o hf
    refine k5_putAside X hI hH hl.1 qX5_188 ⟨Nat.le_of_ble_eq_true rfl, Nat.le_of_ble_eq_true rfl⟩ ht3 (Nat.le_of_ble_eq_true rfl) dX5_ifRun_35 ⟨Nat.zero_le _, Nat.zero_le _⟩ (fun H locs hH => ?_)
    refine lv_aload_n hx hb dX5_ifRun_38 rfl (lv_at hl 0 rfl) ?_
    refine mr_get X hH.1 (k := 0) (v := .ref (ad 1)) (by decide) gfX5_7 rfl dX5_ifRun_39 ?_
    refine lv_sipush (v := 166) hx hb dX5_ifRun_42 (by decide) ?_
    obtain ⟨hi4, hf⟩ := gd_o hf
    refine mr_ld1 X hH.1 hi4 dX5_ifRun_45 ?_
    refine lv_istore_n (lv' := [(3, .int (v1 (Int32.toNatClampNeg 166))), (0, .ref (ad 0)), (1, .int x1), (2, .int x2)]) hx hb dX5_ifRun_46 rfl hl (by decide) rfl (fun ls hl => ?_)
    refine lv_aload_n hx hb dX5_ifRun_47 rfl (lv_at hl 1 rfl) ?_
    obtain ⟨t5, ht5, hf⟩ := bd_o hf
    refine k5_allBumps X hH.1 hl.1 qX5_197 ⟨Nat.le_of_ble_eq_true rfl, Nat.le_of_ble_eq_true rfl⟩ ht5 (Nat.le_of_ble_eq_true rfl) dX5_ifRun_48 ⟨Nat.zero_le _, Nat.zero_le _⟩ ?_
    refine lv_istore (lv' := [(4, .int t5), (3, .int (v1 (Int32.toNatClampNeg 166))), (0, .ref (ad 0)), (1, .int x1), (2, .int x2)]) hx hb dX5_ifRun_51 hl (by decide) rfl (fun ls hl => ?_)
    refine lv_aload_n hx hb dX5_ifRun_53 rfl (lv_at hl 2 rfl) ?_
    refine lv_iload_n hx hb dX5_ifRun_54 rfl (lv_at hl 3 rfl) ?_
    obtain ⟨t6, ht6, hf⟩ := bd_o hf
    refine k5_runs X hI hH hl.1 qX5_138 ⟨Nat.le_of_ble_eq_true rfl, Nat.le_of_ble_eq_true rfl⟩ ht6 (Nat.le_of_ble_eq_true rfl) dX5_ifRun_55 ⟨Nat.zero_le _, Nat.zero_le _⟩ (fun H locs hH => ?_)
    refine lv_istore (lv' := [(5, .int t6.1), (4, .int t5), (3, .int (v1 (Int32.toNatClampNeg 166))), (0, .ref (ad 0)), (1, .int x1), (2, .int x2)]) hx hb dX5_ifRun_58 hl (by decide) rfl (fun ls hl => ?_)
    refine lv_iload_n hx hb dX5_ifRun_60 rfl (lv_at hl 5 rfl) ?_
    refine lv_if_ne (tgt := 69) hx hb dX5_ifRun_61 (by decide) (fun c7 => ?_) (fun c7 => ?_)
    · have hf := it_f c7 hf
      refine lv_iload_n hx hb dX5_ifRun_69 rfl (lv_at hl 5 rfl) ?_
      refine lv_iconst (v := 1) hx hb dX5_ifRun_70 (by decide) ?_
      refine lv_icmp_ne (tgt := 87) hx hb dX5_ifRun_71 (by decide) (fun c8 => ?_) (fun c8 => ?_)
      · have hf := it_f c8 hf
        refine lv_iload_n hx hb dX5_ifRun_87 rfl (lv_at hl 5 rfl) ?_
        refine lv_iconst (v := 2) hx hb dX5_ifRun_88 (by decide) ?_
        refine lv_icmp_ne (tgt := 101) hx hb dX5_ifRun_89 (by decide) (fun c9 => ?_) (fun c9 => ?_)
        · have hf := it_f c9 hf
          refine lv_iload_n hx hb dX5_ifRun_101 rfl (lv_at hl 5 rfl) ?_
          refine lv_iconst (v := 3) hx hb dX5_ifRun_102 (by decide) ?_
          refine lv_icmp_ne (tgt := 116) hx hb dX5_ifRun_103 (by decide) (fun c10 => ?_) (fun c10 => ?_)
          · have hf := it_f c10 hf
            refine lv_aload_n hx hb dX5_ifRun_116 rfl (lv_at hl 3 rfl) ?_
            refine lv_iconst (v := 1) hx hb dX5_ifRun_117 (by decide) ?_
            refine lv_iconst (v := (-1)) hx hb dX5_ifRun_118 (by decide) ?_
            obtain ⟨t11, ht11, hf⟩ := bd_o hf
            refine k5_carsAt X hH.1 hl.1 qX5_182 ⟨Nat.le_of_ble_eq_true rfl, Nat.le_of_ble_eq_true rfl⟩ ht11 (Nat.le_of_ble_eq_true rfl) dX5_ifRun_119 ⟨Nat.zero_le _, Nat.zero_le _⟩ ?_
            exact w5_ifRun_122 X hI hH (lv_sub hl [3] rfl) hf
          · have hf := it_t c10 hf
            refine lv_aload_n hx hb dX5_ifRun_106 rfl (lv_at hl 3 rfl) ?_
            obtain ⟨t12, ht12, hf⟩ := bd_o hf
            refine k5_allBumps X hH.1 hl.1 qX5_197 ⟨Nat.le_of_ble_eq_true rfl, Nat.le_of_ble_eq_true rfl⟩ ht12 (Nat.le_of_ble_eq_true rfl) dX5_ifRun_107 ⟨Nat.zero_le _, Nat.zero_le _⟩ ?_
            refine lv_iload hx hb dX5_ifRun_110 (lv_at hl 1 rfl) ?_
            refine lv_isub hx hb dX5_ifRun_112 ?_
            refine lv_goto (tgt := 122) hx hb dX5_ifRun_113 (by decide) ?_
            exact w5_ifRun_122 X hI hH (lv_sub hl [3] rfl) hf
        · have hf := it_t c9 hf
          refine lv_aload_n hx hb dX5_ifRun_92 rfl (lv_at hl 3 rfl) ?_
          refine lv_iconst (v := 3) hx hb dX5_ifRun_93 (by decide) ?_
          refine lv_iconst (v := (-1)) hx hb dX5_ifRun_94 (by decide) ?_
          obtain ⟨t13, ht13, hf⟩ := bd_o hf
          refine k5_carsAt X hH.1 hl.1 qX5_182 ⟨Nat.le_of_ble_eq_true rfl, Nat.le_of_ble_eq_true rfl⟩ ht13 (Nat.le_of_ble_eq_true rfl) dX5_ifRun_95 ⟨Nat.zero_le _, Nat.zero_le _⟩ ?_
          refine lv_goto (tgt := 122) hx hb dX5_ifRun_98 (by decide) ?_
          exact w5_ifRun_122 X hI hH (lv_sub hl [3] rfl) hf
      · have hf := it_t c8 hf
        refine lv_aload_n hx hb dX5_ifRun_74 rfl (lv_at hl 3 rfl) ?_
        refine mr_get X hH.1 (k := 0) (v := .ref (ad 1)) (by decide) gfX5_7 rfl dX5_ifRun_75 ?_
        refine lv_sipush (v := 166) hx hb dX5_ifRun_78 (by decide) ?_
        obtain ⟨hi14, hf⟩ := gd_o hf
        refine mr_ld1 X hH.1 hi14 dX5_ifRun_81 ?_
        refine lv_iload_n hx hb dX5_ifRun_82 rfl (lv_at hl 2 rfl) ?_
        refine lv_isub hx hb dX5_ifRun_83 ?_
        refine lv_goto (tgt := 122) hx hb dX5_ifRun_84 (by decide) ?_
        exact w5_ifRun_122 X hI hH (lv_sub hl [3] rfl) hf
    · have hf := it_t c7 hf
      refine lv_iload hx hb dX5_ifRun_64 (lv_at hl 0 rfl) ?_
      refine lv_goto (tgt := 122) hx hb dX5_ifRun_66 (by decide) ?_
      exact w5_ifRun_122 X hI hH (lv_sub hl [3] rfl) hf
  · have hf := it_f c2 hf
    refine lv_iconst (v := 0) hx hb dX5_ifRun_32 (by decide) ?_
    obtain rfl := so_i hf
    exact mr_iw X hH rfl dX5_ifRun_33
def f5_ifRun_25 (x1 : Int32) (x2 : Int32) (v0 : Nat → Int32) (v1 : Nat → Int32) (v2 : Nat → Int32) (v7 : Nat → Int32) (v8 : Nat → Int32) : Option (Int32 × (Nat → Int32) × (Nat → Int32) × (Nat → Int32) × (Nat → Int32) × (Nat → Int32)) := f5_ifRun_26 x1 x2 1 v0 v1 v2 v7 v8
set_option maxRecDepth 100000 in
set_option maxHeartbeats 4000000 in
theorem w5_ifRun_25 {p : Program} {l : Launch} {e : Env} {s : State} {m : MethodId} {args : Array Value} {below : List Frame} {meth : Method} {c : Code} {D : va_G} {cI cZ : ClassId} {ad : Nat → Nat} {v0 v1 v2 v3 v4 v5 v6 v7 v8 : Nat → Int32} (X : mX D cI cZ p s m args meth c cX5_ifRun 7 (some .int)) (hI : mInj ad) {x1 : Int32} {x2 : Int32} {t : Int32 × (Nat → Int32) × (Nat → Int32) × (Nat → Int32) × (Nat → Int32) × (Nat → Int32)}  {H : Heap} {locs : List Loc} (hH : mH D cI cZ ad v0 v1 v2 v3 v4 v5 v6 v7 v8 s H locs) {ls : Array Slot} (hl : lv_has ls 7 [(0, .ref (ad 0)), (1, .int x1), (2, .int x2)]) (hf : f5_ifRun_25 x1 x2 v0 v1 v2 v7 v8 = some t) : W p l e rm5_ifRun s m args below meth c H locs 0 0 (MQ below (va_Qi (fun (r9 : Int32) (_ : Unit) => r9 = t.1) (fun _ t9 => mB D cI cZ ad t.2.1 t.2.2.1 t.2.2.2.1 v3 v4 v5 v6 t.2.2.2.2.1 t.2.2.2.2.2 t9) (mA ad s.heap.size)) args s 0 0 (mA ad s.heap.size)) (F0 m 25 ls [.ref (ad 0)]) := by
  obtain ⟨⟨hx, hb, hml, hown, hts⟩, hr, hlk, hK⟩ := id X
  replace hf : (f5_ifRun_26 x1 x2 1 v0 v1 v2 v7 v8) = some t := hf
  refine lv_iconst (v := 1) hx hb dX5_ifRun_25 (by decide) ?_
  exact w5_ifRun_26 X hI hH (lv_sub hl [0, 1, 2] rfl) hf
def f5_ifRun_0 (x1 : Int32) (x2 : Int32) (v0 : Nat → Int32) (v1 : Nat → Int32) (v2 : Nat → Int32) (v7 : Nat → Int32) (v8 : Nat → Int32) : Option (Int32 × (Nat → Int32) × (Nat → Int32) × (Nat → Int32) × (Nat → Int32) × (Nat → Int32)) := Option.bind (f5_in_0 x1 1 200) (fun t1 => if t1 = 0 then (f5_ifRun_25 x1 x2 v0 v1 v2 v7 v8) else (Option.bind (f5_in_0 x2 0 4) (fun t3 => if t3 = 0 then (f5_ifRun_25 x1 x2 v0 v1 v2 v7 v8) else (f5_ifRun_26 x1 x2 0 v0 v1 v2 v7 v8))))
set_option maxRecDepth 100000 in
set_option maxHeartbeats 4000000 in
theorem w5_ifRun_0 {p : Program} {l : Launch} {e : Env} {s : State} {m : MethodId} {args : Array Value} {below : List Frame} {meth : Method} {c : Code} {D : va_G} {cI cZ : ClassId} {ad : Nat → Nat} {v0 v1 v2 v3 v4 v5 v6 v7 v8 : Nat → Int32} (X : mX D cI cZ p s m args meth c cX5_ifRun 7 (some .int)) (hI : mInj ad) {x1 : Int32} {x2 : Int32} {t : Int32 × (Nat → Int32) × (Nat → Int32) × (Nat → Int32) × (Nat → Int32) × (Nat → Int32)}  {H : Heap} {locs : List Loc} (hH : mH D cI cZ ad v0 v1 v2 v3 v4 v5 v6 v7 v8 s H locs) {ls : Array Slot} (hl : lv_has ls 7 [(0, .ref (ad 0)), (1, .int x1), (2, .int x2)]) (hf : f5_ifRun_0 x1 x2 v0 v1 v2 v7 v8 = some t) : W p l e rm5_ifRun s m args below meth c H locs 0 0 (MQ below (va_Qi (fun (r9 : Int32) (_ : Unit) => r9 = t.1) (fun _ t9 => mB D cI cZ ad t.2.1 t.2.2.1 t.2.2.2.1 v3 v4 v5 v6 t.2.2.2.2.1 t.2.2.2.2.2 t9) (mA ad s.heap.size)) args s 0 0 (mA ad s.heap.size)) (F0 m 0 ls []) := by
  obtain ⟨⟨hx, hb, hml, hown, hts⟩, hr, hlk, hK⟩ := id X
  replace hf : (Option.bind (f5_in_0 x1 1 200) (fun t1 => if t1 = 0 then (f5_ifRun_25 x1 x2 v0 v1 v2 v7 v8) else (Option.bind (f5_in_0 x2 0 4) (fun t3 => if t3 = 0 then (f5_ifRun_25 x1 x2 v0 v1 v2 v7 v8) else (f5_ifRun_26 x1 x2 0 v0 v1 v2 v7 v8))))) = some t := hf
  refine lv_aload_n hx hb dX5_ifRun_0 rfl (lv_at hl 0 rfl) ?_
  refine lv_iload_n hx hb dX5_ifRun_1 rfl (lv_at hl 1 rfl) ?_
  refine lv_iconst (v := 1) hx hb dX5_ifRun_2 (by decide) ?_
  refine lv_sipush (v := 200) hx hb dX5_ifRun_3 (by decide) ?_
  obtain ⟨t1, ht1, hf⟩ := bd_o hf
  refine k5_in X.1 hl.1 qX5_39 ⟨Nat.le_of_ble_eq_true rfl, Nat.le_of_ble_eq_true rfl⟩ ht1 (Nat.le_of_ble_eq_true rfl) dX5_ifRun_6 ⟨Nat.zero_le _, Nat.zero_le _⟩ ?_
  refine lv_if_eq (tgt := 25) hx hb dX5_ifRun_9 (by decide) (fun c2 => ?_) (fun c2 => ?_)
  · have hf := it_t c2 hf
    exact w5_ifRun_25 X hI hH (lv_sub hl [0, 1, 2] rfl) hf
  · have hf := it_f c2 hf
    refine lv_iload_n hx hb dX5_ifRun_12 rfl (lv_at hl 2 rfl) ?_
    refine lv_iconst (v := 0) hx hb dX5_ifRun_13 (by decide) ?_
    refine lv_iconst (v := 4) hx hb dX5_ifRun_14 (by decide) ?_
    obtain ⟨t3, ht3, hf⟩ := bd_o hf
    refine k5_in X.1 hl.1 qX5_39 ⟨Nat.le_of_ble_eq_true rfl, Nat.le_of_ble_eq_true rfl⟩ ht3 (Nat.le_of_ble_eq_true rfl) dX5_ifRun_15 ⟨Nat.zero_le _, Nat.zero_le _⟩ ?_
    refine lv_if_eq (tgt := 25) hx hb dX5_ifRun_18 (by decide) (fun c4 => ?_) (fun c4 => ?_)
    · have hf := it_t c4 hf
      exact w5_ifRun_25 X hI hH (lv_sub hl [0, 1, 2] rfl) hf
    · have hf := it_f c4 hf
      refine lv_iconst (v := 0) hx hb dX5_ifRun_21 (by decide) ?_
      refine lv_goto (tgt := 26) hx hb dX5_ifRun_22 (by decide) ?_
      exact w5_ifRun_26 X hI hH (lv_sub hl [0, 1, 2] rfl) hf
set_option maxRecDepth 100000 in
set_option maxHeartbeats 4000000 in
theorem c5_ifRun (l : Launch) {D : va_G} {cI cZ : ClassId} {ad : Nat → Nat} {v0 v1 v2 v3 v4 v5 v6 v7 v8 : Nat → Int32} (hI : mInj ad) (sz : Nat) (x1 : Int32) (x2 : Int32) {t : Int32 × (Nat → Int32) × (Nat → Int32) × (Nat → Int32) × (Nat → Int32) × (Nat → Int32)} (hf : f5_ifRun_0 x1 x2 v0 v1 v2 v7 v8 = some t) : Met l yX5_ifRun uX5_ifRun rm5_ifRun (va_Pc [.ref (ad 0), .int x1, .int x2] (fun U => U.heap.size = sz ∧ mB D cI cZ ad v0 v1 v2 v3 v4 v5 v6 v7 v8 U)) (va_Qi (fun (r9 : Int32) (_ : Unit) => r9 = t.1) (fun _ t9 => mB D cI cZ ad t.2.1 t.2.2.1 t.2.2.2.1 v3 v4 v5 v6 t.2.2.2.2.1 t.2.2.2.2.2 t9) (mA ad sz)) 0 0 (mA ad sz) := by
  refine Met.ofW (cc := cX5_ifRun) (maxL := 7) (ret := (some .int)) (by decide) rfl ?_
  intro p e s m args below meth c s₁ B hml hv
  obtain ⟨rfl, hsz, hP, hK⟩ := hv
  subst hsz
  have X : mX D cI cZ p s m ([.ref (ad 0), .int x1, .int x2] : List Value).toArray meth c cX5_ifRun 7 (some .int) := ⟨⟨B.exec, B.bytes, hml, findClass_of_methodNamed B.named, fun w h => atoms_spec (ws := uX5_ifRun) B.pre w (List.mem_cons_of_mem _ h)⟩, B.returns, B.notSynchronized, hK⟩
  have hl := lv_entry ([.ref (ad 0), .int x1, .int x2]) (n := 7) (Nat.le_of_ble_eq_true rfl)
  rw [lg_entry_eq]
  generalize (lg_sl ([.ref (ad 0), .int x1, .int x2]) ++ List.replicate (7 - (lg_sl ([.ref (ad 0), .int x1, .int x2])).length) Slot.unset).toArray = ls at hl ⊢
  have hl : lv_has ls 7 [(0, .ref (ad 0)), (1, .int x1), (2, .int x2)] := hl
  exact w5_ifRun_0 X hI ⟨hP, va_S.rf⟩ (lv_sub hl [0, 1, 2] rfl) hf
set_option maxRecDepth 100000 in
set_option maxHeartbeats 4000000 in
theorem k5_ifRun {p : Program} {l : Launch} {e : Env} {R : Room} {s : State} {m : MethodId} {args : Array Value} {below : List Frame} {meth : Method} {c : Code} {cc : ByteArray} {nL : Nat} {ret : Option FieldType} {D : va_G} {cI cZ : ClassId} {ad : Nat → Nat} {v0 v1 v2 v3 v4 v5 v6 v7 v8 : Nat → Int32} {H : Heap} {locs : List Loc} {cells slots : Nat} {Q : State → Prop} {pc : Nat} {ls : Array Slot} {rest : List Value} (X : mX D cI cZ p s m args meth c cc nL ret) (hI : mInj ad) (hH : mH D cI cZ ad v0 v1 v2 v3 v4 v5 v6 v7 v8 s H locs) (hls : ls.size = nL) {index : Nat} (hG : GoodIn gw (wsV RX5 index RX5 yX5_ifRun uX5_ifRun)) (hR : rm5_ifRun.frames + 1 ≤ R.frames ∧ 8 + (7 + 11) + rm5_ifRun.locals ≤ R.locals) {x1 : Int32} {x2 : Int32} {t : Int32 × (Nat → Int32) × (Nat → Int32) × (Nat → Int32) × (Nat → Int32) × (Nat → Int32)} (hf : f5_ifRun_0 x1 x2 v0 v1 v2 v7 v8 = some t) (hrest : (rest.map fun v => v.category).sum ≤ 8) (hdg : decode cc pc = .ok (.invokevirtual index, 3)) (hc : cells ≤ R.cells ∧ slots ≤ R.slots) (kk : ∀ (H1 : Heap) (locs1 : List Loc), mH D cI cZ ad t.2.1 t.2.2.1 t.2.2.2.1 v3 v4 v5 v6 t.2.2.2.2.1 t.2.2.2.2.2 s H1 locs1 → W p l e R s m args below meth c H1 locs1 cells slots Q (F0 m (pc + 3) ls (.int t.1 :: rest))) : W p l e R s m args below meth c H locs cells slots Q (F0 m pc ls (.int x2 :: .int x1 :: .ref (ad 0) :: rest)) := by
  have hA : ∀ q, mA ad H.size q → mA ad s.heap.size q := fun q h => h.elim Or.inl (fun h => Or.inr (Nat.le_trans hH.2.1 h))
  refine va_calli (va_runV (As := [.int x1, .int x2]) (rest := rest) X.1 (c5_ifRun l hI H.size x1 x2 hf) (cwV 2 X.1.2.2.2.2 hG rfl rfl rfl (by decide +kernel) hR) ⟨mBs_bl, va_recv X.2.2.2 hH.1 (ci := 5) (q0 := 0) rfl rfl, fun U hU hW => ⟨rfl, by rw [hU], by rw [hU]; exact hH.1, va_K.moved hW.alike X.2.2.2⟩⟩ rfl rfl hls rfl (lv_room hrest) hdg hc) hH.2 (fun q _ h => hA q h) hA (fun r9 u t9 H1 locs1 ht hvm hw hB hz1 hk1 hS => ?_)
  subst hw
  exact kk H1 locs1 ⟨by rw [← ht]; exact hB.1, hS⟩
/-! OreRailwayModel.meanSpeed()F -/
def rm5_meanSpeed : Room := { frames := 2, cells := 0, slots := 0, locals := 43 }
def f5_meanSpeed_85 (v1 : Nat → Int32) (y0 : UInt32) (v0 : Nat → Int32) : Option (UInt32 × (Nat → Int32)) := some (y0, v0)
set_option maxRecDepth 100000 in
set_option maxHeartbeats 4000000 in
theorem w5_meanSpeed_85 {p : Program} {l : Launch} {e : Env} {s : State} {m : MethodId} {args : Array Value} {below : List Frame} {meth : Method} {c : Code} {D : va_G} {cI cZ : ClassId} {ad : Nat → Nat} {v0 v1 v2 v3 v4 v5 v6 v7 v8 : Nat → Int32} (X : mX D cI cZ p s m args meth c cX5_meanSpeed 4 (some .float)) (hI : mInj ad) {y0 : UInt32} {t : UInt32 × (Nat → Int32)}  {H : Heap} {locs : List Loc} (hH : mH D cI cZ ad v0 v1 v2 v3 v4 v5 v6 v7 v8 s H locs) {ls : Array Slot} (hl : lv_has ls 4 []) (hf : f5_meanSpeed_85 v1 y0 v0 = some t) : W p l e rm5_meanSpeed s m args below meth c H locs 0 0 (MQ below (va_Qf (fun (r9 : UInt32) (_ : Unit) => r9 = t.1) (fun _ t9 => mB D cI cZ ad t.2 v1 v2 v3 v4 v5 v6 v7 v8 t9) (mA ad s.heap.size)) args s 0 0 (mA ad s.heap.size)) (F0 m 85 ls [.float y0]) := by
  obtain ⟨⟨hx, hb, hml, hown, hts⟩, hr, hlk, hK⟩ := id X
  replace hf : (some (y0, v0)) = some t := hf
  obtain rfl := so_i hf
  exact mr_fw X hH rfl dX5_meanSpeed_85
def f5_meanSpeed_64 (v1 : Nat → Int32) (K11 : Int32 → Int32 → Int32 → (Nat → Int32) → (Option (UInt32 × (Nat → Int32)))) (x1 : Int32) (x3 : Int32) (y0 : Int32) (y1 : Int32) (v0 : Nat → Int32) : Option (UInt32 × (Nat → Int32)) := K11 x1 (y1 + y0) (x3 + 1) v0
set_option maxRecDepth 100000 in
set_option maxHeartbeats 4000000 in
theorem w5_meanSpeed_64 {p : Program} {l : Launch} {e : Env} {s : State} {m : MethodId} {args : Array Value} {below : List Frame} {meth : Method} {c : Code} {D : va_G} {cI cZ : ClassId} {ad : Nat → Nat} {v0 v1 v2 v3 v4 v5 v6 v7 v8 : Nat → Int32} (X : mX D cI cZ p s m args meth c cX5_meanSpeed 4 (some .float)) (hI : mInj ad) {x1 : Int32} {x3 : Int32} {y0 : Int32} {y1 : Int32} {t : UInt32 × (Nat → Int32)} {K11 : Int32 → Int32 → Int32 → (Nat → Int32) → (Option (UInt32 × (Nat → Int32)))} (hK11 : ∀ (x1 : Int32) (x2 : Int32) (x3 : Int32) (v0 : Nat → Int32) (H : Heap) (locs : List Loc), mH D cI cZ ad v0 v1 v2 v3 v4 v5 v6 v7 v8 s H locs → ∀ (ls : Array Slot), lv_has ls 4 [(0, .ref (ad 0)), (1, .int x1), (2, .int x2), (3, .int x3)] → K11 x1 x2 x3 v0 = some t → W p l e rm5_meanSpeed s m args below meth c H locs 0 0 (MQ below (va_Qf (fun (r9 : UInt32) (_ : Unit) => r9 = t.1) (fun _ t9 => mB D cI cZ ad t.2 v1 v2 v3 v4 v5 v6 v7 v8 t9) (mA ad s.heap.size)) args s 0 0 (mA ad s.heap.size)) (F0 m 11 ls []))  {H : Heap} {locs : List Loc} (hH : mH D cI cZ ad v0 v1 v2 v3 v4 v5 v6 v7 v8 s H locs) {ls : Array Slot} (hl : lv_has ls 4 [(0, .ref (ad 0)), (1, .int x1), (3, .int x3)]) (hf : f5_meanSpeed_64 v1 K11 x1 x3 y0 y1 v0 = some t) : W p l e rm5_meanSpeed s m args below meth c H locs 0 0 (MQ below (va_Qf (fun (r9 : UInt32) (_ : Unit) => r9 = t.1) (fun _ t9 => mB D cI cZ ad t.2 v1 v2 v3 v4 v5 v6 v7 v8 t9) (mA ad s.heap.size)) args s 0 0 (mA ad s.heap.size)) (F0 m 64 ls [.int y0, .int y1]) := by
  obtain ⟨⟨hx, hb, hml, hown, hts⟩, hr, hlk, hK⟩ := id X
  replace hf : (K11 x1 (y1 + y0) (x3 + 1) v0) = some t := hf
  refine lv_iadd hx hb dX5_meanSpeed_64 ?_
  refine lv_istore_n (lv' := [(2, .int (y1 + y0)), (0, .ref (ad 0)), (1, .int x1), (3, .int x3)]) hx hb dX5_meanSpeed_65 rfl hl (by decide) rfl (fun ls hl => ?_)
  refine lv_iinc (v := x3 + 1) (lv' := [(3, .int (x3 + 1)), (2, .int (y1 + y0)), (0, .ref (ad 0)), (1, .int x1)]) hx hb dX5_meanSpeed_66 hl (k := 3) rfl rfl (by decide) rfl (fun ls hl => ?_)
  refine lv_goto (tgt := 11) hx hb dX5_meanSpeed_69 (by decide) ?_
  exact hK11 _ _ _ _ _ _ hH _ (lv_sub hl [2, 3, 1, 0] rfl) hf
def f5_meanSpeed_47 (v1 : Nat → Int32) (K11 : Int32 → Int32 → Int32 → (Nat → Int32) → (Option (UInt32 × (Nat → Int32)))) (x2 : Int32) (x3 : Int32) (y0 : Int32) (y1 : Int32) (v0 : Nat → Int32) : Option (UInt32 × (Nat → Int32)) := Option.bind (f5_isIn_0 v1 x3 1) (fun t1 => if t1 = 0 then (f5_meanSpeed_64 v1 K11 (y1 + y0) x3 0 x2 v0) else (f5_meanSpeed_64 v1 K11 (y1 + y0) x3 1 x2 v0))
set_option maxRecDepth 100000 in
set_option maxHeartbeats 4000000 in
theorem w5_meanSpeed_47 {p : Program} {l : Launch} {e : Env} {s : State} {m : MethodId} {args : Array Value} {below : List Frame} {meth : Method} {c : Code} {D : va_G} {cI cZ : ClassId} {ad : Nat → Nat} {v0 v1 v2 v3 v4 v5 v6 v7 v8 : Nat → Int32} (X : mX D cI cZ p s m args meth c cX5_meanSpeed 4 (some .float)) (hI : mInj ad) {x2 : Int32} {x3 : Int32} {y0 : Int32} {y1 : Int32} {t : UInt32 × (Nat → Int32)} {K11 : Int32 → Int32 → Int32 → (Nat → Int32) → (Option (UInt32 × (Nat → Int32)))} (hK11 : ∀ (x1 : Int32) (x2 : Int32) (x3 : Int32) (v0 : Nat → Int32) (H : Heap) (locs : List Loc), mH D cI cZ ad v0 v1 v2 v3 v4 v5 v6 v7 v8 s H locs → ∀ (ls : Array Slot), lv_has ls 4 [(0, .ref (ad 0)), (1, .int x1), (2, .int x2), (3, .int x3)] → K11 x1 x2 x3 v0 = some t → W p l e rm5_meanSpeed s m args below meth c H locs 0 0 (MQ below (va_Qf (fun (r9 : UInt32) (_ : Unit) => r9 = t.1) (fun _ t9 => mB D cI cZ ad t.2 v1 v2 v3 v4 v5 v6 v7 v8 t9) (mA ad s.heap.size)) args s 0 0 (mA ad s.heap.size)) (F0 m 11 ls []))  {H : Heap} {locs : List Loc} (hH : mH D cI cZ ad v0 v1 v2 v3 v4 v5 v6 v7 v8 s H locs) {ls : Array Slot} (hl : lv_has ls 4 [(0, .ref (ad 0)), (2, .int x2), (3, .int x3)]) (hf : f5_meanSpeed_47 v1 K11 x2 x3 y0 y1 v0 = some t) : W p l e rm5_meanSpeed s m args below meth c H locs 0 0 (MQ below (va_Qf (fun (r9 : UInt32) (_ : Unit) => r9 = t.1) (fun _ t9 => mB D cI cZ ad t.2 v1 v2 v3 v4 v5 v6 v7 v8 t9) (mA ad s.heap.size)) args s 0 0 (mA ad s.heap.size)) (F0 m 47 ls [.int y0, .int y1]) := by
  obtain ⟨⟨hx, hb, hml, hown, hts⟩, hr, hlk, hK⟩ := id X
  replace hf : (Option.bind (f5_isIn_0 v1 x3 1) (fun t1 => if t1 = 0 then (f5_meanSpeed_64 v1 K11 (y1 + y0) x3 0 x2 v0) else (f5_meanSpeed_64 v1 K11 (y1 + y0) x3 1 x2 v0))) = some t := hf
  refine lv_iadd hx hb dX5_meanSpeed_47 ?_
  refine lv_istore_n (lv' := [(1, .int (y1 + y0)), (0, .ref (ad 0)), (2, .int x2), (3, .int x3)]) hx hb dX5_meanSpeed_48 rfl hl (by decide) rfl (fun ls hl => ?_)
  refine lv_iload_n hx hb dX5_meanSpeed_49 rfl (lv_at hl 2 rfl) ?_
  refine lv_aload_n hx hb dX5_meanSpeed_50 rfl (lv_at hl 1 rfl) ?_
  refine lv_iload_n hx hb dX5_meanSpeed_51 rfl (lv_at hl 3 rfl) ?_
  refine lv_iconst (v := 1) hx hb dX5_meanSpeed_52 (by decide) ?_
  obtain ⟨t1, ht1, hf⟩ := bd_o hf
  refine k5_isIn X hH.1 hl.1 qX5_67 ⟨Nat.le_of_ble_eq_true rfl, Nat.le_of_ble_eq_true rfl⟩ ht1 (Nat.le_of_ble_eq_true rfl) dX5_meanSpeed_53 ⟨Nat.zero_le _, Nat.zero_le _⟩ ?_
  refine lv_if_eq (tgt := 63) hx hb dX5_meanSpeed_56 (by decide) (fun c2 => ?_) (fun c2 => ?_)
  · have hf := it_t c2 hf
    refine lv_iconst (v := 0) hx hb dX5_meanSpeed_63 (by decide) ?_
    exact w5_meanSpeed_64 X hI (K11 := K11) hK11 hH (lv_sub hl [1, 0, 3] rfl) hf
  · have hf := it_f c2 hf
    refine lv_iconst (v := 1) hx hb dX5_meanSpeed_59 (by decide) ?_
    refine lv_goto (tgt := 64) hx hb dX5_meanSpeed_60 (by decide) ?_
    exact w5_meanSpeed_64 X hI (K11 := K11) hK11 hH (lv_sub hl [1, 0, 3] rfl) hf
def f5_meanSpeed_11 (v1 : Nat → Int32) : Nat → Int32 → Int32 → Int32 → (Nat → Int32) → Option (UInt32 × (Nat → Int32))
  | 0, _, _, _, _ => none
  | n + 1, x1, x2, x3, v0 => gd 162 171 (if (v1 (Int32.toNatClampNeg 162)) ≤ x3 then (if x2 = 0 then (f5_meanSpeed_85 v1 FP.fconst0 v0) else (gf (FP.fdiv (FP.i2f x1) (FP.i2f x2)) (f5_meanSpeed_85 v1 (FP.fdiv (FP.i2f x1) (FP.i2f x2)) v0))) else (Option.bind (f5_isIn_0 v1 x3 1) (fun t5 => if t5 = 0 then (f5_meanSpeed_47 v1 (f5_meanSpeed_11 v1 n) x2 x3 0 x1 v0) else (gd (e5_of x3 3) 171 (f5_meanSpeed_47 v1 (f5_meanSpeed_11 v1 n) x2 x3 (v1 (Int32.toNatClampNeg (e5_of x3 3))) x1 v0)))))
set_option maxRecDepth 100000 in
set_option maxHeartbeats 4000000 in
theorem w5_meanSpeed_11 {p : Program} {l : Launch} {e : Env} {s : State} {m : MethodId} {args : Array Value} {below : List Frame} {meth : Method} {c : Code} {D : va_G} {cI cZ : ClassId} {ad : Nat → Nat} {v1 v2 v3 v4 v5 v6 v7 v8 : Nat → Int32} (X : mX D cI cZ p s m args meth c cX5_meanSpeed 4 (some .float)) (hI : mInj ad) {t : UInt32 × (Nat → Int32)} :
    ∀ (n : Nat) (x1 : Int32) (x2 : Int32) (x3 : Int32) (v0 : Nat → Int32) (H : Heap) (locs : List Loc), mH D cI cZ ad v0 v1 v2 v3 v4 v5 v6 v7 v8 s H locs → ∀ (ls : Array Slot), lv_has ls 4 [(0, .ref (ad 0)), (1, .int x1), (2, .int x2), (3, .int x3)] → f5_meanSpeed_11 v1 n x1 x2 x3 v0 = some t → W p l e rm5_meanSpeed s m args below meth c H locs 0 0 (MQ below (va_Qf (fun (r9 : UInt32) (_ : Unit) => r9 = t.1) (fun _ t9 => mB D cI cZ ad t.2 v1 v2 v3 v4 v5 v6 v7 v8 t9) (mA ad s.heap.size)) args s 0 0 (mA ad s.heap.size)) (F0 m 11 ls []) := by
  obtain ⟨⟨hx, hb, hml, hown, hts⟩, hr, hlk, hK⟩ := id X
  intro n
  induction n with
  | zero =>
    intro x1 x2 x3 v0 H locs hH ls hl hf
    cases hf
  | succ n ih =>
    intro x1 x2 x3 v0 H locs hH ls hl hf
    replace hf : (gd 162 171 (if (v1 (Int32.toNatClampNeg 162)) ≤ x3 then (if x2 = 0 then (f5_meanSpeed_85 v1 FP.fconst0 v0) else (gf (FP.fdiv (FP.i2f x1) (FP.i2f x2)) (f5_meanSpeed_85 v1 (FP.fdiv (FP.i2f x1) (FP.i2f x2)) v0))) else (Option.bind (f5_isIn_0 v1 x3 1) (fun t5 => if t5 = 0 then (f5_meanSpeed_47 v1 (f5_meanSpeed_11 v1 n) x2 x3 0 x1 v0) else (gd (e5_of x3 3) 171 (f5_meanSpeed_47 v1 (f5_meanSpeed_11 v1 n) x2 x3 (v1 (Int32.toNatClampNeg (e5_of x3 3))) x1 v0)))))) = some t := hf
    refine lv_iload_n hx hb dX5_meanSpeed_11 rfl (lv_at hl 3 rfl) ?_
    refine lv_aload_n hx hb dX5_meanSpeed_12 rfl (lv_at hl 0 rfl) ?_
    refine mr_get X hH.1 (k := 0) (v := .ref (ad 1)) (by decide) gfX5_7 rfl dX5_meanSpeed_13 ?_
    refine lv_sipush (v := 162) hx hb dX5_meanSpeed_16 (by decide) ?_
    obtain ⟨hi1, hf⟩ := gd_o hf
    refine mr_ld1 X hH.1 hi1 dX5_meanSpeed_19 ?_
    refine lv_icmp_ge (tgt := 72) hx hb dX5_meanSpeed_20 (by decide) (fun c2 => ?_) (fun c2 => ?_)
    · have hf := it_t c2 hf
      refine lv_iload_n hx hb dX5_meanSpeed_72 rfl (lv_at hl 2 rfl) ?_
      refine lv_if_ne (tgt := 80) hx hb dX5_meanSpeed_73 (by decide) (fun c3 => ?_) (fun c3 => ?_)
      · have hf := it_f c3 hf
        refine lv_iload_n hx hb dX5_meanSpeed_80 rfl (lv_at hl 1 rfl) ?_
        refine lv_i2f hx hb dX5_meanSpeed_81 ?_
        refine lv_iload_n hx hb dX5_meanSpeed_82 rfl (lv_at hl 2 rfl) ?_
        refine lv_i2f hx hb dX5_meanSpeed_83 ?_
        obtain ⟨hn4, hf⟩ := gf_o hf
        refine lv_fdiv hx hb dX5_meanSpeed_84 hn4 ?_
        exact w5_meanSpeed_85 X hI hH (lv_sub hl [] rfl) hf
      · have hf := it_t c3 hf
        refine lv_fconst0 hx hb dX5_meanSpeed_76 ?_
        refine lv_goto (tgt := 85) hx hb dX5_meanSpeed_77 (by decide) ?_
        exact w5_meanSpeed_85 X hI hH (lv_sub hl [] rfl) hf
    · have hf := it_f c2 hf
      refine lv_iload_n hx hb dX5_meanSpeed_23 rfl (lv_at hl 1 rfl) ?_
      refine lv_aload_n hx hb dX5_meanSpeed_24 rfl (lv_at hl 0 rfl) ?_
      refine lv_iload_n hx hb dX5_meanSpeed_25 rfl (lv_at hl 3 rfl) ?_
      refine lv_iconst (v := 1) hx hb dX5_meanSpeed_26 (by decide) ?_
      obtain ⟨t5, ht5, hf⟩ := bd_o hf
      refine k5_isIn X hH.1 hl.1 qX5_67 ⟨Nat.le_of_ble_eq_true rfl, Nat.le_of_ble_eq_true rfl⟩ ht5 (Nat.le_of_ble_eq_true rfl) dX5_meanSpeed_27 ⟨Nat.zero_le _, Nat.zero_le _⟩ ?_
      refine lv_if_eq (tgt := 46) hx hb dX5_meanSpeed_30 (by decide) (fun c6 => ?_) (fun c6 => ?_)
      · have hf := it_t c6 hf
        refine lv_iconst (v := 0) hx hb dX5_meanSpeed_46 (by decide) ?_
        exact w5_meanSpeed_47 X hI (K11 := (f5_meanSpeed_11 v1 n)) ih hH (lv_sub hl [0, 2, 3] rfl) hf
      · have hf := it_f c6 hf
        refine lv_aload_n hx hb dX5_meanSpeed_33 rfl (lv_at hl 0 rfl) ?_
        refine mr_get X hH.1 (k := 0) (v := .ref (ad 1)) (by decide) gfX5_7 rfl dX5_meanSpeed_34 ?_
        refine lv_iload_n hx hb dX5_meanSpeed_37 rfl (lv_at hl 3 rfl) ?_
        refine lv_iconst (v := 3) hx hb dX5_meanSpeed_38 (by decide) ?_
        refine k5_of X.1 hl.1 qX5_43 ⟨Nat.le_of_ble_eq_true rfl, Nat.le_of_ble_eq_true rfl⟩ (Nat.le_of_ble_eq_true rfl) dX5_meanSpeed_39 ⟨Nat.zero_le _, Nat.zero_le _⟩ ?_
        obtain ⟨hi7, hf⟩ := gd_o hf
        refine mr_ld1 X hH.1 hi7 dX5_meanSpeed_42 ?_
        refine lv_goto (tgt := 47) hx hb dX5_meanSpeed_43 (by decide) ?_
        exact w5_meanSpeed_47 X hI (K11 := (f5_meanSpeed_11 v1 n)) ih hH (lv_sub hl [0, 2, 3] rfl) hf
def f5_meanSpeed_0 (v1 : Nat → Int32) (v0 : Nat → Int32) : Option (UInt32 × (Nat → Int32)) := f5_meanSpeed_11 v1 fu 0 0 0 (upd v0 8 0)
set_option maxRecDepth 100000 in
set_option maxHeartbeats 4000000 in
theorem w5_meanSpeed_0 {p : Program} {l : Launch} {e : Env} {s : State} {m : MethodId} {args : Array Value} {below : List Frame} {meth : Method} {c : Code} {D : va_G} {cI cZ : ClassId} {ad : Nat → Nat} {v0 v1 v2 v3 v4 v5 v6 v7 v8 : Nat → Int32} (X : mX D cI cZ p s m args meth c cX5_meanSpeed 4 (some .float)) (hI : mInj ad) {t : UInt32 × (Nat → Int32)}  {H : Heap} {locs : List Loc} (hH : mH D cI cZ ad v0 v1 v2 v3 v4 v5 v6 v7 v8 s H locs) {ls : Array Slot} (hl : lv_has ls 4 [(0, .ref (ad 0))]) (hf : f5_meanSpeed_0 v1 v0 = some t) : W p l e rm5_meanSpeed s m args below meth c H locs 0 0 (MQ below (va_Qf (fun (r9 : UInt32) (_ : Unit) => r9 = t.1) (fun _ t9 => mB D cI cZ ad t.2 v1 v2 v3 v4 v5 v6 v7 v8 t9) (mA ad s.heap.size)) args s 0 0 (mA ad s.heap.size)) (F0 m 0 ls []) := by
  obtain ⟨⟨hx, hb, hml, hown, hts⟩, hr, hlk, hK⟩ := id X
  replace hf : (f5_meanSpeed_11 v1 fu 0 0 0 (upd v0 8 0)) = some t := hf
  refine lv_aload_n hx hb dX5_meanSpeed_0 rfl (lv_at hl 0 rfl) ?_
  refine lv_iconst (v := 0) hx hb dX5_meanSpeed_1 (by decide) ?_
  refine mr_put X hI hH 8 (by decide) gfX5_35 rfl rfl dX5_meanSpeed_2 (fun H locs hH => ?_)
  refine lv_iconst (v := 0) hx hb dX5_meanSpeed_5 (by decide) ?_
  refine lv_istore_n (lv' := [(1, .int 0), (0, .ref (ad 0))]) hx hb dX5_meanSpeed_6 rfl hl (by decide) rfl (fun ls hl => ?_)
  refine lv_iconst (v := 0) hx hb dX5_meanSpeed_7 (by decide) ?_
  refine lv_istore_n (lv' := [(2, .int 0), (1, .int 0), (0, .ref (ad 0))]) hx hb dX5_meanSpeed_8 rfl hl (by decide) rfl (fun ls hl => ?_)
  refine lv_iconst (v := 0) hx hb dX5_meanSpeed_9 (by decide) ?_
  refine lv_istore_n (lv' := [(3, .int 0), (2, .int 0), (1, .int 0), (0, .ref (ad 0))]) hx hb dX5_meanSpeed_10 rfl hl (by decide) rfl (fun ls hl => ?_)
  exact w5_meanSpeed_11 X hI _ _ _ _ _ _ _ hH _ (lv_sub hl [3, 2, 1, 0] rfl) hf
set_option maxRecDepth 100000 in
set_option maxHeartbeats 4000000 in
theorem c5_meanSpeed (l : Launch) {D : va_G} {cI cZ : ClassId} {ad : Nat → Nat} {v0 v1 v2 v3 v4 v5 v6 v7 v8 : Nat → Int32} (hI : mInj ad) (sz : Nat) {t : UInt32 × (Nat → Int32)} (hf : f5_meanSpeed_0 v1 v0 = some t) : Met l yX5_meanSpeed uX5_meanSpeed rm5_meanSpeed (va_Pc [.ref (ad 0)] (fun U => U.heap.size = sz ∧ mB D cI cZ ad v0 v1 v2 v3 v4 v5 v6 v7 v8 U)) (va_Qf (fun (r9 : UInt32) (_ : Unit) => r9 = t.1) (fun _ t9 => mB D cI cZ ad t.2 v1 v2 v3 v4 v5 v6 v7 v8 t9) (mA ad sz)) 0 0 (mA ad sz) := by
  refine Met.ofW (cc := cX5_meanSpeed) (maxL := 4) (ret := (some .float)) (by decide) rfl ?_
  intro p e s m args below meth c s₁ B hml hv
  obtain ⟨rfl, hsz, hP, hK⟩ := hv
  subst hsz
  have X : mX D cI cZ p s m ([.ref (ad 0)] : List Value).toArray meth c cX5_meanSpeed 4 (some .float) := ⟨⟨B.exec, B.bytes, hml, findClass_of_methodNamed B.named, fun w h => atoms_spec (ws := uX5_meanSpeed) B.pre w (List.mem_cons_of_mem _ h)⟩, B.returns, B.notSynchronized, hK⟩
  have hl := lv_entry ([.ref (ad 0)]) (n := 4) (Nat.le_of_ble_eq_true rfl)
  rw [lg_entry_eq]
  generalize (lg_sl ([.ref (ad 0)]) ++ List.replicate (4 - (lg_sl ([.ref (ad 0)])).length) Slot.unset).toArray = ls at hl ⊢
  have hl : lv_has ls 4 [(0, .ref (ad 0))] := hl
  exact w5_meanSpeed_0 X hI ⟨hP, va_S.rf⟩ (lv_sub hl [0] rfl) hf
set_option maxRecDepth 100000 in
set_option maxHeartbeats 4000000 in
theorem k5_meanSpeed {p : Program} {l : Launch} {e : Env} {R : Room} {s : State} {m : MethodId} {args : Array Value} {below : List Frame} {meth : Method} {c : Code} {cc : ByteArray} {nL : Nat} {ret : Option FieldType} {D : va_G} {cI cZ : ClassId} {ad : Nat → Nat} {v0 v1 v2 v3 v4 v5 v6 v7 v8 : Nat → Int32} {H : Heap} {locs : List Loc} {cells slots : Nat} {Q : State → Prop} {pc : Nat} {ls : Array Slot} {rest : List Value} (X : mX D cI cZ p s m args meth c cc nL ret) (hI : mInj ad) (hH : mH D cI cZ ad v0 v1 v2 v3 v4 v5 v6 v7 v8 s H locs) (hls : ls.size = nL) {index : Nat} (hG : GoodIn gw (wsV RX5 index RX5 yX5_meanSpeed uX5_meanSpeed)) (hR : rm5_meanSpeed.frames + 1 ≤ R.frames ∧ 8 + (4 + 11) + rm5_meanSpeed.locals ≤ R.locals) {t : UInt32 × (Nat → Int32)} (hf : f5_meanSpeed_0 v1 v0 = some t) (hrest : (rest.map fun v => v.category).sum ≤ 8) (hdg : decode cc pc = .ok (.invokevirtual index, 3)) (hc : cells ≤ R.cells ∧ slots ≤ R.slots) (kk : ∀ (H1 : Heap) (locs1 : List Loc), mH D cI cZ ad t.2 v1 v2 v3 v4 v5 v6 v7 v8 s H1 locs1 → W p l e R s m args below meth c H1 locs1 cells slots Q (F0 m (pc + 3) ls (.float t.1 :: rest))) : W p l e R s m args below meth c H locs cells slots Q (F0 m pc ls (.ref (ad 0) :: rest)) := by
  have hA : ∀ q, mA ad H.size q → mA ad s.heap.size q := fun q h => h.elim Or.inl (fun h => Or.inr (Nat.le_trans hH.2.1 h))
  refine va_callf (va_runV (As := []) (rest := rest) X.1 (c5_meanSpeed l hI H.size hf) (cwV 0 X.1.2.2.2.2 hG rfl rfl rfl (by decide +kernel) hR) ⟨mBs_bl, va_recv X.2.2.2 hH.1 (ci := 5) (q0 := 0) rfl rfl, fun U hU hW => ⟨rfl, by rw [hU], by rw [hU]; exact hH.1, va_K.moved hW.alike X.2.2.2⟩⟩ rfl rfl hls rfl (lv_room hrest) hdg hc) hH.2 (fun q _ h => hA q h) hA (fun r9 u t9 H1 locs1 ht hvm hw hB hz1 hk1 hS => ?_)
  subst hw
  exact kk H1 locs1 ⟨by rw [← ht]; exact hB.1, hS⟩
