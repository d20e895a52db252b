/-! OreRailway.goBack(I)I -/
def rm4_goBack : Room := { frames := 7, cells := 2, slots := 12, locals := 110 }
def f4_goBack_14 (x1 : Int32) (y0 : Int32) (mu : Nat → Nat → Int32) : Option (Int32 × Int32 × (Nat → Nat → Int32)) := if y0 = 0 then (some (2, 0, mu)) else (gd x1 2 (if (mu 11 (Int32.toNatClampNeg x1)) = 0 then (some (3, 0, mu)) else (Option.bind (f1_push_0 mu) (fun t4 => gd x1 2 (Option.bind (f3_copyFrom_0 (t4 (8 + Int32.toNatClampNeg x1)) (t4 0)) (fun t6 => some (0, (s1 t4 0 t6) 0 163, s1 t4 0 t6)))))))
set_option maxRecDepth 100000 in
set_option maxHeartbeats 4000000 in
theorem w4_goBack_14 {p : Program} {l : Launch} {e : Env} {s : State} {m : MethodId} {args : Array Value} {below : List Frame} {meth : Method} {c : Code} {D : va_G} {Y : cYt} {ad : Nat → Nat} {mu : Nat → Nat → Int32} (X : cX D Y p s m args meth c cX4_goBack 2 RX4 (some .int)) (hI : cInj ad) (hl0 : l.stackTraces = false) (hZ : c.exceptionTable.toList = [] ∧ zx (cA ad s.heap.size) s)  {x1 : Int32} {y0 : Int32} {t : Int32 × Int32 × (Nat → Nat → Int32)}  {H : Heap} {locs : List Loc} (hH : cH D Y ad mu s H locs) {ls : Array Slot} (hl : lv_has ls 2 [(0, .ref (ad 150)), (1, .int x1)]) (hf : f4_goBack_14 x1 y0 mu = some t) : W p l e rm4_goBack s m args below meth c H locs 0 0 (vx_MQ below (va_Qi (fun (r9 : Int32) (_ : Unit) => r9 = t.2.1 ∧ t.1 = 0) (fun _ t9 => cB D Y ad t.2.2 t9) (cA ad s.heap.size)) (vx_X (fun (_ : Unit) => ¬ t.1 = 0) (fun E _ t9 => E = xn t.1 ∧ cB D Y ad t.2.2 t9) (cA ad s.heap.size)) args s 2 12 (cA ad s.heap.size)) (F0 m 14 ls [.int y0]) := by
  obtain ⟨⟨hx, hb, hml, hown, hts⟩, hr, hlk, hK⟩ := id X
  replace hf : (if y0 = 0 then (some (2, 0, mu)) else (gd x1 2 (if (mu 11 (Int32.toNatClampNeg x1)) = 0 then (some (3, 0, mu)) else (Option.bind (f1_push_0 mu) (fun t4 => gd x1 2 (Option.bind (f3_copyFrom_0 (t4 (8 + Int32.toNatClampNeg x1)) (t4 0)) (fun t6 => some (0, (s1 t4 0 t6) 0 163, s1 t4 0 t6)))))))) = some t := hf
  refine rq_2 X hl0 hZ hH hl.1 qX4_49 ⟨Nat.le_of_ble_eq_true rfl, Nat.le_of_ble_eq_true rfl⟩ dX4_goBack_14 ⟨Nat.le_of_ble_eq_true rfl, Nat.le_of_ble_eq_true rfl⟩ ⟨Nat.le_of_ble_eq_true rfl, Nat.le_of_ble_eq_true rfl⟩ (fun c1 => ?_) (fun c1 => ?_)
  · have hf := it_t c1 hf
    obtain rfl := so_i hf
    exact ⟨rfl, rfl⟩
  have hf := it_f c1 hf
  refine lv_aload_n hx hb dX4_goBack_17 rfl (lv_at hl 0 rfl) ?_
  refine cr_gRa X hH.1 (i := 4) (v := .ref (ad 154)) (by decide) gfX4_30 rfl dX4_goBack_18 ?_
  refine lv_iload_n hx hb dX4_goBack_21 rfl (lv_at hl 1 rfl) ?_
  obtain ⟨hi2, hf⟩ := gd_o hf
  refine cr_kept X hH.1 hi2 dX4_goBack_22 ?_
  refine rq_3 X hl0 hZ hH hl.1 qX4_67 ⟨Nat.le_of_ble_eq_true rfl, Nat.le_of_ble_eq_true rfl⟩ dX4_goBack_23 ⟨Nat.le_of_ble_eq_true rfl, Nat.le_of_ble_eq_true rfl⟩ ⟨Nat.le_of_ble_eq_true rfl, Nat.le_of_ble_eq_true rfl⟩ (fun c3 => ?_) (fun c3 => ?_)
  · have hf := it_t c3 hf
    obtain rfl := so_i hf
    exact ⟨rfl, rfl⟩
  have hf := it_f c3 hf
  refine lv_aload_n hx hb dX4_goBack_26 rfl (lv_at hl 0 rfl) ?_
  refine cr_gRa X hH.1 (i := 2) (v := .ref (ad 151)) (by decide) gfX4_22 rfl dX4_goBack_27 ?_
  refine lv_aload_n hx hb dX4_goBack_30 rfl (lv_at hl 0 rfl) ?_
  refine cr_gRa X hH.1 (i := 0) (v := .ref (ad (15 * 0))) (by decide) gfX4_10 rfl dX4_goBack_31 ?_
  obtain ⟨t4, ht4, hf⟩ := bd_o hf
  refine k1_push X hI hH hl.1 qX4_52 ⟨Nat.le_of_ble_eq_true rfl, Nat.le_of_ble_eq_true rfl⟩ ht4 (Nat.le_of_ble_eq_true rfl) dX4_goBack_34 ⟨Nat.le_of_ble_eq_true rfl, Nat.le_of_ble_eq_true rfl⟩ (fun H locs hH => ?_)
  refine lv_aload_n hx hb dX4_goBack_37 rfl (lv_at hl 0 rfl) ?_
  refine cr_gRa X hH.1 (i := 0) (v := .ref (ad (15 * 0))) (by decide) gfX4_10 rfl dX4_goBack_38 ?_
  refine lv_aload_n hx hb dX4_goBack_41 rfl (lv_at hl 0 rfl) ?_
  refine cr_gRa X hH.1 (i := 3) (v := .ref (ad 153)) (by decide) gfX4_26 rfl dX4_goBack_42 ?_
  refine lv_iload_n hx hb dX4_goBack_45 rfl (lv_at hl 1 rfl) ?_
  obtain ⟨hi5, hf⟩ := gd_o hf
  refine cr_shots X hH.1 hi5 dX4_goBack_46 ?_
  obtain ⟨t6, ht6, hf⟩ := bd_o hf
  refine km3_copyFrom X hI (k := 0) (by omega) (k2 := 8 + Int32.toNatClampNeg x1) (by have := vin_lt hi5; omega) (by omega) hH hl.1 qX4_144 ⟨Nat.le_of_ble_eq_true rfl, Nat.le_of_ble_eq_true rfl⟩ ht6 (Nat.le_of_ble_eq_true rfl) dX4_goBack_47 ⟨Nat.le_of_ble_eq_true rfl, Nat.le_of_ble_eq_true rfl⟩ (fun H locs hH => ?_)
  refine lv_aload_n hx hb dX4_goBack_50 rfl (lv_at hl 0 rfl) ?_
  refine cr_gRa X hH.1 (i := 0) (v := .ref (ad (15 * 0))) (by decide) gfX4_10 rfl dX4_goBack_51 ?_
  refine cr_gSt X (k := 0) (by omega) rfl hH.1 (i := 7) (v := .int ((s1 t4 0 t6) 0 163)) (by decide) gfX4_147 rfl dX4_goBack_54 ?_
  obtain rfl := so_i hf
  exact cx_iw X hH rfl rfl (Nat.le_of_ble_eq_true rfl) (Nat.le_of_ble_eq_true rfl) dX4_goBack_57
def f4_goBack_13 (x1 : Int32) (mu : Nat → Nat → Int32) : Option (Int32 × Int32 × (Nat → Nat → Int32)) := f4_goBack_14 x1 0 mu
set_option maxRecDepth 100000 in
set_option maxHeartbeats 4000000 in
theorem w4_goBack_13 {p : Program} {l : Launch} {e : Env} {s : State} {m : MethodId} {args : Array Value} {below : List Frame} {meth : Method} {c : Code} {D : va_G} {Y : cYt} {ad : Nat → Nat} {mu : Nat → Nat → Int32} (X : cX D Y p s m args meth c cX4_goBack 2 RX4 (some .int)) (hI : cInj ad) (hl0 : l.stackTraces = false) (hZ : c.exceptionTable.toList = [] ∧ zx (cA ad s.heap.size) s)  {x1 : Int32} {t : Int32 × Int32 × (Nat → Nat → Int32)}  {H : Heap} {locs : List Loc} (hH : cH D Y ad mu s H locs) {ls : Array Slot} (hl : lv_has ls 2 [(0, .ref (ad 150)), (1, .int x1)]) (hf : f4_goBack_13 x1 mu = some t) : W p l e rm4_goBack s m args below meth c H locs 0 0 (vx_MQ below (va_Qi (fun (r9 : Int32) (_ : Unit) => r9 = t.2.1 ∧ t.1 = 0) (fun _ t9 => cB D Y ad t.2.2 t9) (cA ad s.heap.size)) (vx_X (fun (_ : Unit) => ¬ t.1 = 0) (fun E _ t9 => E = xn t.1 ∧ cB D Y ad t.2.2 t9) (cA ad s.heap.size)) args s 2 12 (cA ad s.heap.size)) (F0 m 13 ls []) := by
  obtain ⟨⟨hx, hb, hml, hown, hts⟩, hr, hlk, hK⟩ := id X
  replace hf : (f4_goBack_14 x1 0 mu) = some t := hf
  refine lv_iconst (v := 0) hx hb dX4_goBack_13 (by decide) ?_
  exact w4_goBack_14 X hI hl0 hZ hH (lv_sub hl [0, 1] rfl) hf
def f4_goBack_0 (x1 : Int32) (mu : Nat → Nat → Int32) : Option (Int32 × Int32 × (Nat → Nat → Int32)) := if x1 < 0 then (f4_goBack_13 x1 mu) else (if 2 ≤ x1 then (f4_goBack_13 x1 mu) else (f4_goBack_14 x1 1 mu))
set_option maxRecDepth 100000 in
set_option maxHeartbeats 4000000 in
theorem w4_goBack_0 {p : Program} {l : Launch} {e : Env} {s : State} {m : MethodId} {args : Array Value} {below : List Frame} {meth : Method} {c : Code} {D : va_G} {Y : cYt} {ad : Nat → Nat} {mu : Nat → Nat → Int32} (X : cX D Y p s m args meth c cX4_goBack 2 RX4 (some .int)) (hI : cInj ad) (hl0 : l.stackTraces = false) (hZ : c.exceptionTable.toList = [] ∧ zx (cA ad s.heap.size) s)  {x1 : Int32} {t : Int32 × Int32 × (Nat → Nat → Int32)}  {H : Heap} {locs : List Loc} (hH : cH D Y ad mu s H locs) {ls : Array Slot} (hl : lv_has ls 2 [(0, .ref (ad 150)), (1, .int x1)]) (hf : f4_goBack_0 x1 mu = some t) : W p l e rm4_goBack s m args below meth c H locs 0 0 (vx_MQ below (va_Qi (fun (r9 : Int32) (_ : Unit) => r9 = t.2.1 ∧ t.1 = 0) (fun _ t9 => cB D Y ad t.2.2 t9) (cA ad s.heap.size)) (vx_X (fun (_ : Unit) => ¬ t.1 = 0) (fun E _ t9 => E = xn t.1 ∧ cB D Y ad t.2.2 t9) (cA ad s.heap.size)) args s 2 12 (cA ad s.heap.size)) (F0 m 0 ls []) := by
  obtain ⟨⟨hx, hb, hml, hown, hts⟩, hr, hlk, hK⟩ := id X
  replace hf : (if x1 < 0 then (f4_goBack_13 x1 mu) else (if 2 ≤ x1 then (f4_goBack_13 x1 mu) else (f4_goBack_14 x1 1 mu))) = some t := hf
  refine lv_iload_n hx hb dX4_goBack_0 rfl (lv_at hl 1 rfl) ?_
  refine lv_if_lt (tgt := 13) hx hb dX4_goBack_1 (by decide) (fun c1 => ?_) (fun c1 => ?_)
  · have hf := it_t c1 hf
    exact w4_goBack_13 X hI hl0 hZ hH (lv_sub hl [0, 1] rfl) hf
  · have hf := it_f c1 hf
    refine lv_iload_n hx hb dX4_goBack_4 rfl (lv_at hl 1 rfl) ?_
    refine lv_iconst (v := 2) hx hb dX4_goBack_5 (by decide) ?_
    refine lv_icmp_ge (tgt := 13) hx hb dX4_goBack_6 (by decide) (fun c2 => ?_) (fun c2 => ?_)
    · have hf := it_t c2 hf
      exact w4_goBack_13 X hI hl0 hZ hH (lv_sub hl [0, 1] rfl) hf
    · have hf := it_f c2 hf
      refine lv_iconst (v := 1) hx hb dX4_goBack_9 (by decide) ?_
      refine lv_goto (tgt := 14) hx hb dX4_goBack_10 (by decide) ?_
      exact w4_goBack_14 X hI hl0 hZ hH (lv_sub hl [0, 1] rfl) hf
set_option maxRecDepth 100000 in
set_option maxHeartbeats 4000000 in
theorem c4_goBack (l : Launch) {D : va_G} {Y : cYt} {ad : Nat → Nat} {mu : Nat → Nat → Int32} (hI : cInj ad) (hl0 : l.stackTraces = false) (sz : Nat) (x1 : Int32) {t : Int32 × Int32 × (Nat → Nat → Int32)} (hf : f4_goBack_0 x1 mu = some t) : vx_Met l yX4_goBack uX4_goBack rm4_goBack (va_Pc [.ref (ad 150), .int x1] (fun U => U.heap.size = sz ∧ zx (cA ad sz) U ∧ cB D Y ad mu U)) (va_Qi (fun (r9 : Int32) (_ : Unit) => r9 = t.2.1 ∧ t.1 = 0) (fun _ t9 => cB D Y ad t.2.2 t9) (cA ad sz)) (vx_X (fun (_ : Unit) => ¬ t.1 = 0) (fun E _ t9 => E = xn t.1 ∧ cB D Y ad t.2.2 t9) (cA ad sz)) 2 12 (cA ad sz) := by
  refine vx_ofW (cc := cX4_goBack) (maxL := 2) (ret := (some .int)) (by decide) rfl ?_
  intro p e s m args below meth c s₁ B hml hx0 hv
  obtain ⟨rfl, hsz, hz, hP, hK⟩ := hv
  subst hsz
  have X : cX D Y p s m ([.ref (ad 150), .int x1] : List Value).toArray meth c cX4_goBack 2 RX4 (some .int) := ⟨⟨B.exec, B.bytes, hml, findClass_of_methodNamed B.named, fun w h => atoms_spec (ws := uX4_goBack) B.pre w (List.mem_cons_of_mem _ h)⟩, B.returns, B.notSynchronized, hK⟩
  have hl := lv_entry ([.ref (ad 150), .int x1]) (n := 2) (Nat.le_of_ble_eq_true rfl)
  rw [lg_entry_eq]
  generalize (lg_sl ([.ref (ad 150), .int x1]) ++ List.replicate (2 - (lg_sl ([.ref (ad 150), .int x1])).length) Slot.unset).toArray = ls at hl ⊢
  have hl : lv_has ls 2 [(0, .ref (ad 150)), (1, .int x1)] := hl
  exact w4_goBack_0 X hI hl0 ⟨List.eq_nil_iff_forall_not_mem.mpr (fun x h => hx0 x h), hz⟩ ⟨hP, va_S.rf⟩ (lv_sub hl [0, 1] rfl) hf
/-! OreRailway.section(II)I -/
def rm4_section : Room := { frames := 7, cells := 2, slots := 12, locals := 110 }
def f4_section_15 (mu : Nat → Nat → Int32) (x1 : Int32) (x2 : Int32) (y0 : Int32) : Option (Int32 × Int32) := if y0 = 0 then (some (1, 0)) else (Option.bind (f4_isWithin_0 x2 0 4) (fun t2 => if t2 = 0 then (some (2, 0)) else (if x2 = 0 then (gd x1 30 (some (0, mu 0 (Int32.toNatClampNeg x1)))) else (if x2 = 1 then (gd x1 30 (some (0, mu 0 (30 + Int32.toNatClampNeg x1)))) else (if x2 = 2 then (Option.bind (f3_carsInSection_0 (mu 0) x1 1) (fun t9 => some (0, t9))) else (if x2 = 3 then (Option.bind (f3_carsInSection_0 (mu 0) x1 3) (fun t11 => some (0, t11))) else (gd x1 30 (some (0, mu 0 (60 + Int32.toNatClampNeg x1))))))))))
set_option maxRecDepth 100000 in
set_option maxHeartbeats 4000000 in
theorem w4_section_15 {p : Program} {l : Launch} {e : Env} {s : State} {m : MethodId} {args : Array Value} {below : List Frame} {meth : Method} {c : Code} {D : va_G} {Y : cYt} {ad : Nat → Nat} {mu : Nat → Nat → Int32} (X : cX D Y p s m args meth c cX4_section 3 RX4 (some .int)) (hI : cInj ad) (hl0 : l.stackTraces = false) (hZ : c.exceptionTable.toList = [] ∧ zx (cA ad s.heap.size) s)  {x1 : Int32} {x2 : Int32} {y0 : Int32} {t : Int32 × Int32}  {H : Heap} {locs : List Loc} (hH : cH D Y ad mu s H locs) {ls : Array Slot} (hl : lv_has ls 3 [(0, .ref (ad 150)), (1, .int x1), (2, .int x2)]) (hf : f4_section_15 mu x1 x2 y0 = some t) : W p l e rm4_section s m args below meth c H locs 0 0 (vx_MQ below (va_Qi (fun (r9 : Int32) (_ : Unit) => r9 = t.2 ∧ t.1 = 0) (fun _ t9 => cB D Y ad mu t9) (cA ad s.heap.size)) (vx_X (fun (_ : Unit) => ¬ t.1 = 0) (fun E _ t9 => E = xn t.1 ∧ cB D Y ad mu t9) (cA ad s.heap.size)) args s 2 12 (cA ad s.heap.size)) (F0 m 15 ls [.int y0]) := by
  obtain ⟨⟨hx, hb, hml, hown, hts⟩, hr, hlk, hK⟩ := id X
  replace hf : (if y0 = 0 then (some (1, 0)) else (Option.bind (f4_isWithin_0 x2 0 4) (fun t2 => if t2 = 0 then (some (2, 0)) else (if x2 = 0 then (gd x1 30 (some (0, mu 0 (Int32.toNatClampNeg x1)))) else (if x2 = 1 then (gd x1 30 (some (0, mu 0 (30 + Int32.toNatClampNeg x1)))) else (if x2 = 2 then (Option.bind (f3_carsInSection_0 (mu 0) x1 1) (fun t9 => some (0, t9))) else (if x2 = 3 then (Option.bind (f3_carsInSection_0 (mu 0) x1 3) (fun t11 => some (0, t11))) else (gd x1 30 (some (0, mu 0 (60 + Int32.toNatClampNeg x1))))))))))) = some t := hf
  refine rq_1 X hl0 hZ hH hl.1 qX4_41 ⟨Nat.le_of_ble_eq_true rfl, Nat.le_of_ble_eq_true rfl⟩ dX4_section_15 ⟨Nat.le_of_ble_eq_true rfl, Nat.le_of_ble_eq_true rfl⟩ ⟨Nat.le_of_ble_eq_true rfl, Nat.le_of_ble_eq_true rfl⟩ (fun c1 => ?_) (fun c1 => ?_)
  · have hf := it_t c1 hf
    obtain rfl := so_i hf
    exact ⟨rfl, rfl⟩
  have hf := it_f c1 hf
  refine lv_iload_n hx hb dX4_section_18 rfl (lv_at hl 2 rfl) ?_
  refine lv_iconst (v := 0) hx hb dX4_section_19 (by decide) ?_
  refine lv_iconst (v := 4) hx hb dX4_section_20 (by decide) ?_
  obtain ⟨t2, ht2, hf⟩ := bd_o hf
  refine k4_isWithin X.1 hl.1 qX4_45 ⟨Nat.le_of_ble_eq_true rfl, Nat.le_of_ble_eq_true rfl⟩ ht2 (Nat.le_of_ble_eq_true rfl) dX4_section_21 ⟨Nat.le_of_ble_eq_true rfl, Nat.le_of_ble_eq_true rfl⟩ ?_
  refine rq_2 X hl0 hZ hH hl.1 qX4_49 ⟨Nat.le_of_ble_eq_true rfl, Nat.le_of_ble_eq_true rfl⟩ dX4_section_24 ⟨Nat.le_of_ble_eq_true rfl, Nat.le_of_ble_eq_true rfl⟩ ⟨Nat.le_of_ble_eq_true rfl, Nat.le_of_ble_eq_true rfl⟩ (fun c3 => ?_) (fun c3 => ?_)
  · have hf := it_t c3 hf
    obtain rfl := so_i hf
    exact ⟨rfl, rfl⟩
  have hf := it_f c3 hf
  refine lv_iload_n hx hb dX4_section_27 rfl (lv_at hl 2 rfl) ?_
  by_cases c4 : x2 = 0
  · have hf := it_t c4 hf
    refine lv_tableIn (off := 32) (tgt := 60) hx hb dX4_section_28 (by rw [c4]; decide) (by rw [c4]; decide) (by rw [c4]; rfl) (by decide) ?_
    refine lv_aload_n hx hb dX4_section_60 rfl (lv_at hl 0 rfl) ?_
    refine cr_gRa X hH.1 (i := 0) (v := .ref (ad (15 * 0))) (by decide) gfX4_10 rfl dX4_section_61 ?_
    refine cr_gSt X (k := 0) (by omega) rfl hH.1 (i := 0) (v := .ref (ad (15 * 0 + 1))) (by decide) gfX4_56 rfl dX4_section_64 ?_
    refine lv_iload_n hx hb dX4_section_67 rfl (lv_at hl 1 rfl) ?_
    obtain ⟨hi5, hf⟩ := gd_o hf
    refine cr_ld1 X (k := 0) (by omega) rfl hH.1 hi5 dX4_section_68 ?_
    obtain rfl := so_i hf
    exact cx_iw X hH rfl rfl (Nat.le_of_ble_eq_true rfl) (Nat.le_of_ble_eq_true rfl) dX4_section_69
  · have hf := it_f c4 hf
    by_cases c6 : x2 = 1
    · have hf := it_t c6 hf
      refine lv_tableIn (off := 42) (tgt := 70) hx hb dX4_section_28 (by rw [c6]; decide) (by rw [c6]; decide) (by rw [c6]; rfl) (by decide) ?_
      refine lv_aload_n hx hb dX4_section_70 rfl (lv_at hl 0 rfl) ?_
      refine cr_gRa X hH.1 (i := 0) (v := .ref (ad (15 * 0))) (by decide) gfX4_10 rfl dX4_section_71 ?_
      refine cr_gSt X (k := 0) (by omega) rfl hH.1 (i := 1) (v := .ref (ad (15 * 0 + 2))) (by decide) gfX4_60 rfl dX4_section_74 ?_
      refine lv_iload_n hx hb dX4_section_77 rfl (lv_at hl 1 rfl) ?_
      obtain ⟨hi7, hf⟩ := gd_o hf
      refine cr_ld2 X (k := 0) (by omega) rfl hH.1 hi7 dX4_section_78 ?_
      obtain rfl := so_i hf
      exact cx_iw X hH rfl rfl (Nat.le_of_ble_eq_true rfl) (Nat.le_of_ble_eq_true rfl) dX4_section_79
    · have hf := it_f c6 hf
      by_cases c8 : x2 = 2
      · have hf := it_t c8 hf
        refine lv_tableIn (off := 52) (tgt := 80) hx hb dX4_section_28 (by rw [c8]; decide) (by rw [c8]; decide) (by rw [c8]; rfl) (by decide) ?_
        refine lv_aload_n hx hb dX4_section_80 rfl (lv_at hl 0 rfl) ?_
        refine cr_gRa X hH.1 (i := 0) (v := .ref (ad (15 * 0))) (by decide) gfX4_10 rfl dX4_section_81 ?_
        refine lv_iload_n hx hb dX4_section_84 rfl (lv_at hl 1 rfl) ?_
        refine lv_iconst (v := 1) hx hb dX4_section_85 (by decide) ?_
        obtain ⟨t9, ht9, hf⟩ := bd_o hf
        refine k3_carsInSection X (k := 0) (by omega) rfl hH.1 hl.1 qX4_150 ⟨Nat.le_of_ble_eq_true rfl, Nat.le_of_ble_eq_true rfl⟩ ht9 (Nat.le_of_ble_eq_true rfl) dX4_section_86 ⟨Nat.le_of_ble_eq_true rfl, Nat.le_of_ble_eq_true rfl⟩ ?_
        obtain rfl := so_i hf
        exact cx_iw X hH rfl rfl (Nat.le_of_ble_eq_true rfl) (Nat.le_of_ble_eq_true rfl) dX4_section_89
      · have hf := it_f c8 hf
        by_cases c10 : x2 = 3
        · have hf := it_t c10 hf
          refine lv_tableIn (off := 62) (tgt := 90) hx hb dX4_section_28 (by rw [c10]; decide) (by rw [c10]; decide) (by rw [c10]; rfl) (by decide) ?_
          refine lv_aload_n hx hb dX4_section_90 rfl (lv_at hl 0 rfl) ?_
          refine cr_gRa X hH.1 (i := 0) (v := .ref (ad (15 * 0))) (by decide) gfX4_10 rfl dX4_section_91 ?_
          refine lv_iload_n hx hb dX4_section_94 rfl (lv_at hl 1 rfl) ?_
          refine lv_iconst (v := 3) hx hb dX4_section_95 (by decide) ?_
          obtain ⟨t11, ht11, hf⟩ := bd_o hf
          refine k3_carsInSection X (k := 0) (by omega) rfl hH.1 hl.1 qX4_150 ⟨Nat.le_of_ble_eq_true rfl, Nat.le_of_ble_eq_true rfl⟩ ht11 (Nat.le_of_ble_eq_true rfl) dX4_section_96 ⟨Nat.le_of_ble_eq_true rfl, Nat.le_of_ble_eq_true rfl⟩ ?_
          obtain rfl := so_i hf
          exact cx_iw X hH rfl rfl (Nat.le_of_ble_eq_true rfl) (Nat.le_of_ble_eq_true rfl) dX4_section_99
        · have hf := it_f c10 hf
          have nc4 : ¬ Int32.toInt x2 = 0 := ne_ti c4 (by decide)
          have nc6 : ¬ Int32.toInt x2 = 1 := ne_ti c6 (by decide)
          have nc8 : ¬ Int32.toInt x2 = 2 := ne_ti c8 (by decide)
          have nc10 : ¬ Int32.toInt x2 = 3 := ne_ti c10 (by decide)
          refine lv_tableOut (tgt := 100) hx hb dX4_section_28 (by omega) (by decide) ?_
          refine lv_aload_n hx hb dX4_section_100 rfl (lv_at hl 0 rfl) ?_
          refine cr_gRa X hH.1 (i := 0) (v := .ref (ad (15 * 0))) (by decide) gfX4_10 rfl dX4_section_101 ?_
          refine cr_gSt X (k := 0) (by omega) rfl hH.1 (i := 2) (v := .ref (ad (15 * 0 + 3))) (by decide) gfX4_153 rfl dX4_section_104 ?_
          refine lv_iload_n hx hb dX4_section_107 rfl (lv_at hl 1 rfl) ?_
          obtain ⟨hi12, hf⟩ := gd_o hf
          refine cr_ld3 X (k := 0) (by omega) rfl hH.1 hi12 dX4_section_108 ?_
          obtain rfl := so_i hf
          exact cx_iw X hH rfl rfl (Nat.le_of_ble_eq_true rfl) (Nat.le_of_ble_eq_true rfl) dX4_section_109
def f4_section_14 (mu : Nat → Nat → Int32) (x1 : Int32) (x2 : Int32) : Option (Int32 × Int32) := f4_section_15 mu x1 x2 0
set_option maxRecDepth 100000 in
set_option maxHeartbeats 4000000 in
theorem w4_section_14 {p : Program} {l : Launch} {e : Env} {s : State} {m : MethodId} {args : Array Value} {below : List Frame} {meth : Method} {c : Code} {D : va_G} {Y : cYt} {ad : Nat → Nat} {mu : Nat → Nat → Int32} (X : cX D Y p s m args meth c cX4_section 3 RX4 (some .int)) (hI : cInj ad) (hl0 : l.stackTraces = false) (hZ : c.exceptionTable.toList = [] ∧ zx (cA ad s.heap.size) s)  {x1 : Int32} {x2 : Int32} {t : Int32 × Int32}  {H : Heap} {locs : List Loc} (hH : cH D Y ad mu s H locs) {ls : Array Slot} (hl : lv_has ls 3 [(0, .ref (ad 150)), (1, .int x1), (2, .int x2)]) (hf : f4_section_14 mu x1 x2 = some t) : W p l e rm4_section s m args below meth c H locs 0 0 (vx_MQ below (va_Qi (fun (r9 : Int32) (_ : Unit) => r9 = t.2 ∧ t.1 = 0) (fun _ t9 => cB D Y ad mu t9) (cA ad s.heap.size)) (vx_X (fun (_ : Unit) => ¬ t.1 = 0) (fun E _ t9 => E = xn t.1 ∧ cB D Y ad mu t9) (cA ad s.heap.size)) args s 2 12 (cA ad s.heap.size)) (F0 m 14 ls []) := by
  obtain ⟨⟨hx, hb, hml, hown, hts⟩, hr, hlk, hK⟩ := id X
  replace hf : (f4_section_15 mu x1 x2 0) = some t := hf
  refine lv_iconst (v := 0) hx hb dX4_section_14 (by decide) ?_
  exact w4_section_15 X hI hl0 hZ hH (lv_sub hl [0, 1, 2] rfl) hf
def f4_section_0 (mu : Nat → Nat → Int32) (x1 : Int32) (x2 : Int32) : Option (Int32 × Int32) := if x1 < 0 then (f4_section_14 mu x1 x2) else (if 30 ≤ x1 then (f4_section_14 mu x1 x2) else (f4_section_15 mu x1 x2 1))
set_option maxRecDepth 100000 in
set_option maxHeartbeats 4000000 in
theorem w4_section_0 {p : Program} {l : Launch} {e : Env} {s : State} {m : MethodId} {args : Array Value} {below : List Frame} {meth : Method} {c : Code} {D : va_G} {Y : cYt} {ad : Nat → Nat} {mu : Nat → Nat → Int32} (X : cX D Y p s m args meth c cX4_section 3 RX4 (some .int)) (hI : cInj ad) (hl0 : l.stackTraces = false) (hZ : c.exceptionTable.toList = [] ∧ zx (cA ad s.heap.size) s)  {x1 : Int32} {x2 : Int32} {t : Int32 × Int32}  {H : Heap} {locs : List Loc} (hH : cH D Y ad mu s H locs) {ls : Array Slot} (hl : lv_has ls 3 [(0, .ref (ad 150)), (1, .int x1), (2, .int x2)]) (hf : f4_section_0 mu x1 x2 = some t) : W p l e rm4_section s m args below meth c H locs 0 0 (vx_MQ below (va_Qi (fun (r9 : Int32) (_ : Unit) => r9 = t.2 ∧ t.1 = 0) (fun _ t9 => cB D Y ad mu t9) (cA ad s.heap.size)) (vx_X (fun (_ : Unit) => ¬ t.1 = 0) (fun E _ t9 => E = xn t.1 ∧ cB D Y ad mu t9) (cA ad s.heap.size)) args s 2 12 (cA ad s.heap.size)) (F0 m 0 ls []) := by
  obtain ⟨⟨hx, hb, hml, hown, hts⟩, hr, hlk, hK⟩ := id X
  replace hf : (if x1 < 0 then (f4_section_14 mu x1 x2) else (if 30 ≤ x1 then (f4_section_14 mu x1 x2) else (f4_section_15 mu x1 x2 1))) = some t := hf
  refine lv_iload_n hx hb dX4_section_0 rfl (lv_at hl 1 rfl) ?_
  refine lv_if_lt (tgt := 14) hx hb dX4_section_1 (by decide) (fun c1 => ?_) (fun c1 => ?_)
  · have hf := it_t c1 hf
    exact w4_section_14 X hI hl0 hZ hH (lv_sub hl [0, 1, 2] rfl) hf
  · have hf := it_f c1 hf
    refine lv_iload_n hx hb dX4_section_4 rfl (lv_at hl 1 rfl) ?_
    refine lv_bipush (v := 30) hx hb dX4_section_5 (by decide) ?_
    refine lv_icmp_ge (tgt := 14) hx hb dX4_section_7 (by decide) (fun c2 => ?_) (fun c2 => ?_)
    · have hf := it_t c2 hf
      exact w4_section_14 X hI hl0 hZ hH (lv_sub hl [0, 1, 2] rfl) hf
    · have hf := it_f c2 hf
      refine lv_iconst (v := 1) hx hb dX4_section_10 (by decide) ?_
      refine lv_goto (tgt := 15) hx hb dX4_section_11 (by decide) ?_
      exact w4_section_15 X hI hl0 hZ hH (lv_sub hl [0, 1, 2] rfl) hf
set_option maxRecDepth 100000 in
set_option maxHeartbeats 4000000 in
theorem c4_section (l : Launch) {D : va_G} {Y : cYt} {ad : Nat → Nat} {mu : Nat → Nat → Int32} (hI : cInj ad) (hl0 : l.stackTraces = false) (sz : Nat) (x1 : Int32) (x2 : Int32) {t : Int32 × Int32} (hf : f4_section_0 mu x1 x2 = some t) : vx_Met l yX4_section uX4_section rm4_section (va_Pc [.ref (ad 150), .int x1, .int x2] (fun U => U.heap.size = sz ∧ zx (cA ad sz) U ∧ cB D Y ad mu U)) (va_Qi (fun (r9 : Int32) (_ : Unit) => r9 = t.2 ∧ t.1 = 0) (fun _ t9 => cB D Y ad mu t9) (cA ad sz)) (vx_X (fun (_ : Unit) => ¬ t.1 = 0) (fun E _ t9 => E = xn t.1 ∧ cB D Y ad mu t9) (cA ad sz)) 2 12 (cA ad sz) := by
  refine vx_ofW (cc := cX4_section) (maxL := 3) (ret := (some .int)) (by decide) rfl ?_
  intro p e s m args below meth c s₁ B hml hx0 hv
  obtain ⟨rfl, hsz, hz, hP, hK⟩ := hv
  subst hsz
  have X : cX D Y p s m ([.ref (ad 150), .int x1, .int x2] : List Value).toArray meth c cX4_section 3 RX4 (some .int) := ⟨⟨B.exec, B.bytes, hml, findClass_of_methodNamed B.named, fun w h => atoms_spec (ws := uX4_section) B.pre w (List.mem_cons_of_mem _ h)⟩, B.returns, B.notSynchronized, hK⟩
  have hl := lv_entry ([.ref (ad 150), .int x1, .int x2]) (n := 3) (Nat.le_of_ble_eq_true rfl)
  rw [lg_entry_eq]
  generalize (lg_sl ([.ref (ad 150), .int x1, .int x2]) ++ List.replicate (3 - (lg_sl ([.ref (ad 150), .int x1, .int x2])).length) Slot.unset).toArray = ls at hl ⊢
  have hl : lv_has ls 3 [(0, .ref (ad 150)), (1, .int x1), (2, .int x2)] := hl
  exact w4_section_0 X hI hl0 ⟨List.eq_nil_iff_forall_not_mem.mpr (fun x h => hx0 x h), hz⟩ ⟨hP, va_S.rf⟩ (lv_sub hl [0, 1, 2] rfl) hf
/-! OreRailway.carOf(II)I -/
def rm4_carOf : Room := { frames := 7, cells := 2, slots := 12, locals := 110 }
def f4_carOf_0 (mu : Nat → Nat → Int32) (x1 : Int32) (x2 : Int32) : Option (Int32 × Int32) := Option.bind (f3_hasCar_0 (mu 0) x1) (fun t1 => if t1 = 0 then (some (1, 0)) else (Option.bind (f4_isWithin_0 x2 0 9) (fun t3 => if t3 = 0 then (some (2, 0)) else (gd x1 8 (Option.bind (f0_number_0 ((Int32.toNatClampNeg x1)) (mu 0) x2) (fun t6 => some (0, t6)))))))
set_option maxRecDepth 100000 in
set_option maxHeartbeats 4000000 in
theorem w4_carOf_0 {p : Program} {l : Launch} {e : Env} {s : State} {m : MethodId} {args : Array Value} {below : List Frame} {meth : Method} {c : Code} {D : va_G} {Y : cYt} {ad : Nat → Nat} {mu : Nat → Nat → Int32} (X : cX D Y p s m args meth c cX4_carOf 3 RX4 (some .int)) (hI : cInj ad) (hl0 : l.stackTraces = false) (hZ : c.exceptionTable.toList = [] ∧ zx (cA ad s.heap.size) s)  {x1 : Int32} {x2 : Int32} {t : Int32 × Int32}  {H : Heap} {locs : List Loc} (hH : cH D Y ad mu s H locs) {ls : Array Slot} (hl : lv_has ls 3 [(0, .ref (ad 150)), (1, .int x1), (2, .int x2)]) (hf : f4_carOf_0 mu x1 x2 = some t) : W p l e rm4_carOf s m args below meth c H locs 0 0 (vx_MQ below (va_Qi (fun (r9 : Int32) (_ : Unit) => r9 = t.2 ∧ t.1 = 0) (fun _ t9 => cB D Y ad mu t9) (cA ad s.heap.size)) (vx_X (fun (_ : Unit) => ¬ t.1 = 0) (fun E _ t9 => E = xn t.1 ∧ cB D Y ad mu t9) (cA ad s.heap.size)) args s 2 12 (cA ad s.heap.size)) (F0 m 0 ls []) := by
  obtain ⟨⟨hx, hb, hml, hown, hts⟩, hr, hlk, hK⟩ := id X
  replace hf : (Option.bind (f3_hasCar_0 (mu 0) x1) (fun t1 => if t1 = 0 then (some (1, 0)) else (Option.bind (f4_isWithin_0 x2 0 9) (fun t3 => if t3 = 0 then (some (2, 0)) else (gd x1 8 (Option.bind (f0_number_0 ((Int32.toNatClampNeg x1)) (mu 0) x2) (fun t6 => some (0, t6)))))))) = some t := hf
  refine lv_aload_n hx hb dX4_carOf_0 rfl (lv_at hl 0 rfl) ?_
  refine cr_gRa X hH.1 (i := 0) (v := .ref (ad (15 * 0))) (by decide) gfX4_10 rfl dX4_carOf_1 ?_
  refine lv_iload_n hx hb dX4_carOf_4 rfl (lv_at hl 1 rfl) ?_
  obtain ⟨t1, ht1, hf⟩ := bd_o hf
  refine k3_hasCar X (k := 0) (by omega) rfl hH.1 hl.1 qX4_77 ⟨Nat.le_of_ble_eq_true rfl, Nat.le_of_ble_eq_true rfl⟩ ht1 (Nat.le_of_ble_eq_true rfl) dX4_carOf_5 ⟨Nat.le_of_ble_eq_true rfl, Nat.le_of_ble_eq_true rfl⟩ ?_
  refine rq_1 X hl0 hZ hH hl.1 qX4_41 ⟨Nat.le_of_ble_eq_true rfl, Nat.le_of_ble_eq_true rfl⟩ dX4_carOf_8 ⟨Nat.le_of_ble_eq_true rfl, Nat.le_of_ble_eq_true rfl⟩ ⟨Nat.le_of_ble_eq_true rfl, Nat.le_of_ble_eq_true rfl⟩ (fun c2 => ?_) (fun c2 => ?_)
  · have hf := it_t c2 hf
    obtain rfl := so_i hf
    exact ⟨rfl, rfl⟩
  have hf := it_f c2 hf
  refine lv_iload_n hx hb dX4_carOf_11 rfl (lv_at hl 2 rfl) ?_
  refine lv_iconst (v := 0) hx hb dX4_carOf_12 (by decide) ?_
  refine lv_bipush (v := 9) hx hb dX4_carOf_13 (by decide) ?_
  obtain ⟨t3, ht3, hf⟩ := bd_o hf
  refine k4_isWithin X.1 hl.1 qX4_45 ⟨Nat.le_of_ble_eq_true rfl, Nat.le_of_ble_eq_true rfl⟩ ht3 (Nat.le_of_ble_eq_true rfl) dX4_carOf_15 ⟨Nat.le_of_ble_eq_true rfl, Nat.le_of_ble_eq_true rfl⟩ ?_
  refine rq_2 X hl0 hZ hH hl.1 qX4_49 ⟨Nat.le_of_ble_eq_true rfl, Nat.le_of_ble_eq_true rfl⟩ dX4_carOf_18 ⟨Nat.le_of_ble_eq_true rfl, Nat.le_of_ble_eq_true rfl⟩ ⟨Nat.le_of_ble_eq_true rfl, Nat.le_of_ble_eq_true rfl⟩ (fun c4 => ?_) (fun c4 => ?_)
  · have hf := it_t c4 hf
    obtain rfl := so_i hf
    exact ⟨rfl, rfl⟩
  have hf := it_f c4 hf
  refine lv_aload_n hx hb dX4_carOf_21 rfl (lv_at hl 0 rfl) ?_
  refine cr_gRa X hH.1 (i := 0) (v := .ref (ad (15 * 0))) (by decide) gfX4_10 rfl dX4_carOf_22 ?_
  refine cr_gSt X (k := 0) (by omega) rfl hH.1 (i := 4) (v := .ref (ad (15 * 0 + 5))) (by decide) gfX4_156 rfl dX4_carOf_25 ?_
  refine lv_iload_n hx hb dX4_carOf_28 rfl (lv_at hl 1 rfl) ?_
  obtain ⟨hi5, hf⟩ := gd_o hf
  refine cr_cars X (k := 0) (by omega) hH.1 hi5 dX4_carOf_29 ?_
  refine lv_iload_n hx hb dX4_carOf_30 rfl (lv_at hl 2 rfl) ?_
  obtain ⟨t6, ht6, hf⟩ := bd_o hf
  refine k0_number X (k := 0) (by omega) (j := (Int32.toNatClampNeg x1)) (vin_lt hi5) rfl hH.1 hl.1 qX4_160 ⟨Nat.le_of_ble_eq_true rfl, Nat.le_of_ble_eq_true rfl⟩ ht6 (Nat.le_of_ble_eq_true rfl) dX4_carOf_31 ⟨Nat.le_of_ble_eq_true rfl, Nat.le_of_ble_eq_true rfl⟩ ?_
  obtain rfl := so_i hf
  exact cx_iw X hH rfl rfl (Nat.le_of_ble_eq_true rfl) (Nat.le_of_ble_eq_true rfl) dX4_carOf_34
set_option maxRecDepth 100000 in
set_option maxHeartbeats 4000000 in
theorem c4_carOf (l : Launch) {D : va_G} {Y : cYt} {ad : Nat → Nat} {mu : Nat → Nat → Int32} (hI : cInj ad) (hl0 : l.stackTraces = false) (sz : Nat) (x1 : Int32) (x2 : Int32) {t : Int32 × Int32} (hf : f4_carOf_0 mu x1 x2 = some t) : vx_Met l yX4_carOf uX4_carOf rm4_carOf (va_Pc [.ref (ad 150), .int x1, .int x2] (fun U => U.heap.size = sz ∧ zx (cA ad sz) U ∧ cB D Y ad mu U)) (va_Qi (fun (r9 : Int32) (_ : Unit) => r9 = t.2 ∧ t.1 = 0) (fun _ t9 => cB D Y ad mu t9) (cA ad sz)) (vx_X (fun (_ : Unit) => ¬ t.1 = 0) (fun E _ t9 => E = xn t.1 ∧ cB D Y ad mu t9) (cA ad sz)) 2 12 (cA ad sz) := by
  refine vx_ofW (cc := cX4_carOf) (maxL := 3) (ret := (some .int)) (by decide) rfl ?_
  intro p e s m args below meth c s₁ B hml hx0 hv
  obtain ⟨rfl, hsz, hz, hP, hK⟩ := hv
  subst hsz
  have X : cX D Y p s m ([.ref (ad 150), .int x1, .int x2] : List Value).toArray meth c cX4_carOf 3 RX4 (some .int) := ⟨⟨B.exec, B.bytes, hml, findClass_of_methodNamed B.named, fun w h => atoms_spec (ws := uX4_carOf) B.pre w (List.mem_cons_of_mem _ h)⟩, B.returns, B.notSynchronized, hK⟩
  have hl := lv_entry ([.ref (ad 150), .int x1, .int x2]) (n := 3) (Nat.le_of_ble_eq_true rfl)
  rw [lg_entry_eq]
  generalize (lg_sl ([.ref (ad 150), .int x1, .int x2]) ++ List.replicate (3 - (lg_sl ([.ref (ad 150), .int x1, .int x2])).length) Slot.unset).toArray = ls at hl ⊢
  have hl : lv_has ls 3 [(0, .ref (ad 150)), (1, .int x1), (2, .int x2)] := hl
  exact w4_carOf_0 X hI hl0 ⟨List.eq_nil_iff_forall_not_mem.mpr (fun x h => hx0 x h), hz⟩ ⟨hP, va_S.rf⟩ (lv_sub hl [0, 1, 2] rfl) hf
/-! OreRailway.cars(I)I -/
def rm4_cars : Room := { frames := 7, cells := 1, slots := 6, locals := 110 }
def f4_cars_0 (mu : Nat → Nat → Int32) (x1 : Int32) : Option (Int32 × Int32) := Option.bind (f4_isWithin_0 x1 0 4) (fun t1 => if t1 = 0 then (some (2, 0)) else (Option.bind (f3_carsInState_0 (mu 0) x1) (fun t3 => some (0, t3))))
set_option maxRecDepth 100000 in
set_option maxHeartbeats 4000000 in
theorem w4_cars_0 {p : Program} {l : Launch} {e : Env} {s : State} {m : MethodId} {args : Array Value} {below : List Frame} {meth : Method} {c : Code} {D : va_G} {Y : cYt} {ad : Nat → Nat} {mu : Nat → Nat → Int32} (X : cX D Y p s m args meth c cX4_cars 2 RX4 (some .int)) (hI : cInj ad) (hl0 : l.stackTraces = false) (hZ : c.exceptionTable.toList = [] ∧ zx (cA ad s.heap.size) s)  {x1 : Int32} {t : Int32 × Int32}  {H : Heap} {locs : List Loc} (hH : cH D Y ad mu s H locs) {ls : Array Slot} (hl : lv_has ls 2 [(0, .ref (ad 150)), (1, .int x1)]) (hf : f4_cars_0 mu x1 = some t) : W p l e rm4_cars s m args below meth c H locs 0 0 (vx_MQ below (va_Qi (fun (r9 : Int32) (_ : Unit) => r9 = t.2 ∧ t.1 = 0) (fun _ t9 => cB D Y ad mu t9) (cA ad s.heap.size)) (vx_X (fun (_ : Unit) => ¬ t.1 = 0) (fun E _ t9 => E = xn t.1 ∧ cB D Y ad mu t9) (cA ad s.heap.size)) args s 1 6 (cA ad s.heap.size)) (F0 m 0 ls []) := by
  obtain ⟨⟨hx, hb, hml, hown, hts⟩, hr, hlk, hK⟩ := id X
  replace hf : (Option.bind (f4_isWithin_0 x1 0 4) (fun t1 => if t1 = 0 then (some (2, 0)) else (Option.bind (f3_carsInState_0 (mu 0) x1) (fun t3 => some (0, t3))))) = some t := hf
  refine lv_iload_n hx hb dX4_cars_0 rfl (lv_at hl 1 rfl) ?_
  refine lv_iconst (v := 0) hx hb dX4_cars_1 (by decide) ?_
  refine lv_iconst (v := 4) hx hb dX4_cars_2 (by decide) ?_
  obtain ⟨t1, ht1, hf⟩ := bd_o hf
  refine k4_isWithin X.1 hl.1 qX4_45 ⟨Nat.le_of_ble_eq_true rfl, Nat.le_of_ble_eq_true rfl⟩ ht1 (Nat.le_of_ble_eq_true rfl) dX4_cars_3 ⟨Nat.le_of_ble_eq_true rfl, Nat.le_of_ble_eq_true rfl⟩ ?_
  refine rq_2 X hl0 hZ hH hl.1 qX4_49 ⟨Nat.le_of_ble_eq_true rfl, Nat.le_of_ble_eq_true rfl⟩ dX4_cars_6 ⟨Nat.le_of_ble_eq_true rfl, Nat.le_of_ble_eq_true rfl⟩ ⟨Nat.le_of_ble_eq_true rfl, Nat.le_of_ble_eq_true rfl⟩ (fun c2 => ?_) (fun c2 => ?_)
  · have hf := it_t c2 hf
    obtain rfl := so_i hf
    exact ⟨rfl, rfl⟩
  have hf := it_f c2 hf
  refine lv_aload_n hx hb dX4_cars_9 rfl (lv_at hl 0 rfl) ?_
  refine cr_gRa X hH.1 (i := 0) (v := .ref (ad (15 * 0))) (by decide) gfX4_10 rfl dX4_cars_10 ?_
  refine lv_iload_n hx hb dX4_cars_13 rfl (lv_at hl 1 rfl) ?_
  obtain ⟨t3, ht3, hf⟩ := bd_o hf
  refine k3_carsInState X (k := 0) (by omega) rfl hH.1 hl.1 qX4_165 ⟨Nat.le_of_ble_eq_true rfl, Nat.le_of_ble_eq_true rfl⟩ ht3 (Nat.le_of_ble_eq_true rfl) dX4_cars_14 ⟨Nat.le_of_ble_eq_true rfl, Nat.le_of_ble_eq_true rfl⟩ ?_
  obtain rfl := so_i hf
  exact cx_iw X hH rfl rfl (Nat.le_of_ble_eq_true rfl) (Nat.le_of_ble_eq_true rfl) dX4_cars_17
set_option maxRecDepth 100000 in
set_option maxHeartbeats 4000000 in
theorem c4_cars (l : Launch) {D : va_G} {Y : cYt} {ad : Nat → Nat} {mu : Nat → Nat → Int32} (hI : cInj ad) (hl0 : l.stackTraces = false) (sz : Nat) (x1 : Int32) {t : Int32 × Int32} (hf : f4_cars_0 mu x1 = some t) : vx_Met l yX4_cars uX4_cars rm4_cars (va_Pc [.ref (ad 150), .int x1] (fun U => U.heap.size = sz ∧ zx (cA ad sz) U ∧ cB D Y ad mu U)) (va_Qi (fun (r9 : Int32) (_ : Unit) => r9 = t.2 ∧ t.1 = 0) (fun _ t9 => cB D Y ad mu t9) (cA ad sz)) (vx_X (fun (_ : Unit) => ¬ t.1 = 0) (fun E _ t9 => E = xn t.1 ∧ cB D Y ad mu t9) (cA ad sz)) 1 6 (cA ad sz) := by
  refine vx_ofW (cc := cX4_cars) (maxL := 2) (ret := (some .int)) (by decide) rfl ?_
  intro p e s m args below meth c s₁ B hml hx0 hv
  obtain ⟨rfl, hsz, hz, hP, hK⟩ := hv
  subst hsz
  have X : cX D Y p s m ([.ref (ad 150), .int x1] : List Value).toArray meth c cX4_cars 2 RX4 (some .int) := ⟨⟨B.exec, B.bytes, hml, findClass_of_methodNamed B.named, fun w h => atoms_spec (ws := uX4_cars) B.pre w (List.mem_cons_of_mem _ h)⟩, B.returns, B.notSynchronized, hK⟩
  have hl := lv_entry ([.ref (ad 150), .int x1]) (n := 2) (Nat.le_of_ble_eq_true rfl)
  rw [lg_entry_eq]
  generalize (lg_sl ([.ref (ad 150), .int x1]) ++ List.replicate (2 - (lg_sl ([.ref (ad 150), .int x1])).length) Slot.unset).toArray = ls at hl ⊢
  have hl : lv_has ls 2 [(0, .ref (ad 150)), (1, .int x1)] := hl
  exact w4_cars_0 X hI hl0 ⟨List.eq_nil_iff_forall_not_mem.mpr (fun x h => hx0 x h), hz⟩ ⟨hP, va_S.rf⟩ (lv_sub hl [0, 1] rfl) hf
/-! OreRailway.rolling(I)I -/
def rm4_rolling : Room := { frames := 7, cells := 1, slots := 6, locals := 110 }
def f4_rolling_55 (mu : Nat → Nat → Int32) (K14 : Int32 → Int32 → Option (Int32 × Int32)) (x1 : Int32) (x2 : Int32) : Option (Int32 × Int32) := K14 x1 (x2 + 1)
set_option maxRecDepth 100000 in
set_option maxHeartbeats 4000000 in
theorem w4_rolling_55 {p : Program} {l : Launch} {e : Env} {s : State} {m : MethodId} {args : Array Value} {below : List Frame} {meth : Method} {c : Code} {D : va_G} {Y : cYt} {ad : Nat → Nat} {mu : Nat → Nat → Int32} (X : cX D Y p s m args meth c cX4_rolling 3 RX4 (some .int)) (hI : cInj ad) (hl0 : l.stackTraces = false) (hZ : c.exceptionTable.toList = [] ∧ zx (cA ad s.heap.size) s)  {x1 : Int32} {x2 : Int32} {t : Int32 × Int32} {K14 : Int32 → Int32 → Option (Int32 × Int32)} (hK14 : ∀ (x1 : Int32) (x2 : Int32) (H : Heap) (locs : List Loc), cH D Y ad mu s H locs → ∀ (ls : Array Slot), lv_has ls 3 [(0, .ref (ad 150)), (1, .int x1), (2, .int x2)] → K14 x1 x2 = some t → W p l e rm4_rolling s m args below meth c H locs 1 6 (vx_MQ below (va_Qi (fun (r9 : Int32) (_ : Unit) => r9 = t.2 ∧ t.1 = 0) (fun _ t9 => cB D Y ad mu t9) (cA ad s.heap.size)) (vx_X (fun (_ : Unit) => ¬ t.1 = 0) (fun E _ t9 => E = xn t.1 ∧ cB D Y ad mu t9) (cA ad s.heap.size)) args s 1 6 (cA ad s.heap.size)) (F0 m 14 ls []))  {H : Heap} {locs : List Loc} (hH : cH D Y ad mu s H locs) {ls : Array Slot} (hl : lv_has ls 3 [(0, .ref (ad 150)), (1, .int x1), (2, .int x2)]) (hf : f4_rolling_55 mu K14 x1 x2 = some t) : W p l e rm4_rolling s m args below meth c H locs 1 6 (vx_MQ below (va_Qi (fun (r9 : Int32) (_ : Unit) => r9 = t.2 ∧ t.1 = 0) (fun _ t9 => cB D Y ad mu t9) (cA ad s.heap.size)) (vx_X (fun (_ : Unit) => ¬ t.1 = 0) (fun E _ t9 => E = xn t.1 ∧ cB D Y ad mu t9) (cA ad s.heap.size)) args s 1 6 (cA ad s.heap.size)) (F0 m 55 ls []) := by
  obtain ⟨⟨hx, hb, hml, hown, hts⟩, hr, hlk, hK⟩ := id X
  replace hf : (K14 x1 (x2 + 1)) = some t := hf
  refine lv_iinc (v := x2 + 1) (lv' := [(2, .int (x2 + 1)), (0, .ref (ad 150)), (1, .int x1)]) hx hb dX4_rolling_55 hl (k := 2) rfl rfl (by decide) rfl (fun ls hl => ?_)
  refine lv_goto (tgt := 14) hx hb dX4_rolling_58 (by decide) ?_
  exact hK14 _ _ _ _ hH _ (lv_sub hl [1, 2, 0] rfl) hf
def f4_rolling_14 (mu : Nat → Nat → Int32) : Nat → Int32 → Int32 → Option (Int32 × Int32)
  | 0, _, _ => none
  | n + 1, x1, x2 => if (mu 0 162) ≤ x2 then (some (0, (-1))) else (gd x2 8 (if (mu 0 (90 + 9 * ((Int32.toNatClampNeg x2)) + 0)) = 1 then (Option.bind (f3_rankOf_0 (mu 0) x2) (fun t4 => if t4 = x1 then (some (0, x2)) else (f4_rolling_55 mu (f4_rolling_14 mu n) x1 x2))) else (f4_rolling_55 mu (f4_rolling_14 mu n) x1 x2)))
set_option maxRecDepth 100000 in
set_option maxHeartbeats 4000000 in
theorem w4_rolling_14 {p : Program} {l : Launch} {e : Env} {s : State} {m : MethodId} {args : Array Value} {below : List Frame} {meth : Method} {c : Code} {D : va_G} {Y : cYt} {ad : Nat → Nat} {mu : Nat → Nat → Int32} (X : cX D Y p s m args meth c cX4_rolling 3 RX4 (some .int)) (hI : cInj ad) (hl0 : l.stackTraces = false) (hZ : c.exceptionTable.toList = [] ∧ zx (cA ad s.heap.size) s)  {t : Int32 × Int32} :
    ∀ (n : Nat) (x1 : Int32) (x2 : Int32) (H : Heap) (locs : List Loc), cH D Y ad mu s H locs → ∀ (ls : Array Slot), lv_has ls 3 [(0, .ref (ad 150)), (1, .int x1), (2, .int x2)] → f4_rolling_14 mu n x1 x2 = some t → W p l e rm4_rolling s m args below meth c H locs 1 6 (vx_MQ below (va_Qi (fun (r9 : Int32) (_ : Unit) => r9 = t.2 ∧ t.1 = 0) (fun _ t9 => cB D Y ad mu t9) (cA ad s.heap.size)) (vx_X (fun (_ : Unit) => ¬ t.1 = 0) (fun E _ t9 => E = xn t.1 ∧ cB D Y ad mu t9) (cA ad s.heap.size)) args s 1 6 (cA ad s.heap.size)) (F0 m 14 ls []) := by
  obtain ⟨⟨hx, hb, hml, hown, hts⟩, hr, hlk, hK⟩ := id X
  intro n
  induction n with
  | zero =>
    intro x1 x2 H locs hH ls hl hf
    cases hf
  | succ n ih =>
    intro x1 x2 H locs hH ls hl hf
    replace hf : (if (mu 0 162) ≤ x2 then (some (0, (-1))) else (gd x2 8 (if (mu 0 (90 + 9 * ((Int32.toNatClampNeg x2)) + 0)) = 1 then (Option.bind (f3_rankOf_0 (mu 0) x2) (fun t4 => if t4 = x1 then (some (0, x2)) else (f4_rolling_55 mu (f4_rolling_14 mu n) x1 x2))) else (f4_rolling_55 mu (f4_rolling_14 mu n) x1 x2)))) = some t := hf
    refine lv_iload_n hx hb dX4_rolling_14 rfl (lv_at hl 2 rfl) ?_
    refine lv_aload_n hx hb dX4_rolling_15 rfl (lv_at hl 0 rfl) ?_
    refine cr_gRa X hH.1 (i := 0) (v := .ref (ad (15 * 0))) (by decide) gfX4_10 rfl dX4_rolling_16 ?_
    refine cr_gSt X (k := 0) (by omega) rfl hH.1 (i := 6) (v := .int (mu 0 162)) (by decide) gfX4_70 rfl dX4_rolling_19 ?_
    refine lv_icmp_ge (tgt := 61) hx hb dX4_rolling_22 (by decide) (fun c1 => ?_) (fun c1 => ?_)
    · have hf := it_t c1 hf
      refine lv_iconst (v := (-1)) hx hb dX4_rolling_61 (by decide) ?_
      obtain rfl := so_i hf
      exact cx_iw X hH rfl rfl (Nat.le_of_ble_eq_true rfl) (Nat.le_of_ble_eq_true rfl) dX4_rolling_62
    · have hf := it_f c1 hf
      refine lv_aload_n hx hb dX4_rolling_25 rfl (lv_at hl 0 rfl) ?_
      refine cr_gRa X hH.1 (i := 0) (v := .ref (ad (15 * 0))) (by decide) gfX4_10 rfl dX4_rolling_26 ?_
      refine cr_gSt X (k := 0) (by omega) rfl hH.1 (i := 4) (v := .ref (ad (15 * 0 + 5))) (by decide) gfX4_156 rfl dX4_rolling_29 ?_
      refine lv_iload_n hx hb dX4_rolling_32 rfl (lv_at hl 2 rfl) ?_
      obtain ⟨hi2, hf⟩ := gd_o hf
      refine cr_cars X (k := 0) (by omega) hH.1 hi2 dX4_rolling_33 ?_
      refine cr_gCar X (k := 0) (by omega) rfl (j := (Int32.toNatClampNeg x2)) (vin_lt hi2) hH.1 (i := 0) (v := .int (mu 0 (90 + 9 * ((Int32.toNatClampNeg x2)) + 0))) (by decide) gfX4_168 rfl dX4_rolling_34 ?_
      refine lv_iconst (v := 1) hx hb dX4_rolling_37 (by decide) ?_
      refine lv_icmp_ne (tgt := 55) hx hb dX4_rolling_38 (by decide) (fun c3 => ?_) (fun c3 => ?_)
      · have hf := it_f c3 hf
        exact w4_rolling_55 X hI hl0 hZ (K14 := (f4_rolling_14 mu n)) ih hH (lv_sub hl [0, 1, 2] rfl) hf
      · have hf := it_t c3 hf
        refine lv_aload_n hx hb dX4_rolling_41 rfl (lv_at hl 0 rfl) ?_
        refine cr_gRa X hH.1 (i := 0) (v := .ref (ad (15 * 0))) (by decide) gfX4_10 rfl dX4_rolling_42 ?_
        refine lv_iload_n hx hb dX4_rolling_45 rfl (lv_at hl 2 rfl) ?_
        obtain ⟨t4, ht4, hf⟩ := bd_o hf
        refine k3_rankOf X (k := 0) (by omega) rfl hH.1 hl.1 qX4_171 ⟨Nat.le_of_ble_eq_true rfl, Nat.le_of_ble_eq_true rfl⟩ ht4 (Nat.le_of_ble_eq_true rfl) dX4_rolling_46 ⟨Nat.le_of_ble_eq_true rfl, Nat.le_of_ble_eq_true rfl⟩ ?_
        refine lv_iload_n hx hb dX4_rolling_49 rfl (lv_at hl 1 rfl) ?_
        refine lv_icmp_ne (tgt := 55) hx hb dX4_rolling_50 (by decide) (fun c5 => ?_) (fun c5 => ?_)
        · have hf := it_f c5 hf
          exact w4_rolling_55 X hI hl0 hZ (K14 := (f4_rolling_14 mu n)) ih hH (lv_sub hl [0, 1, 2] rfl) hf
        · have hf := it_t c5 hf
          refine lv_iload_n hx hb dX4_rolling_53 rfl (lv_at hl 2 rfl) ?_
          obtain rfl := so_i hf
          exact cx_iw X hH rfl rfl (Nat.le_of_ble_eq_true rfl) (Nat.le_of_ble_eq_true rfl) dX4_rolling_54
def f4_rolling_9 (mu : Nat → Nat → Int32) (x1 : Int32) (y0 : Int32) : Option (Int32 × Int32) := if y0 = 0 then (some (2, 0)) else (f4_rolling_14 mu fu x1 0)
set_option maxRecDepth 100000 in
set_option maxHeartbeats 4000000 in
theorem w4_rolling_9 {p : Program} {l : Launch} {e : Env} {s : State} {m : MethodId} {args : Array Value} {below : List Frame} {meth : Method} {c : Code} {D : va_G} {Y : cYt} {ad : Nat → Nat} {mu : Nat → Nat → Int32} (X : cX D Y p s m args meth c cX4_rolling 3 RX4 (some .int)) (hI : cInj ad) (hl0 : l.stackTraces = false) (hZ : c.exceptionTable.toList = [] ∧ zx (cA ad s.heap.size) s)  {x1 : Int32} {y0 : Int32} {t : Int32 × Int32}  {H : Heap} {locs : List Loc} (hH : cH D Y ad mu s H locs) {ls : Array Slot} (hl : lv_has ls 3 [(0, .ref (ad 150)), (1, .int x1)]) (hf : f4_rolling_9 mu x1 y0 = some t) : W p l e rm4_rolling s m args below meth c H locs 0 0 (vx_MQ below (va_Qi (fun (r9 : Int32) (_ : Unit) => r9 = t.2 ∧ t.1 = 0) (fun _ t9 => cB D Y ad mu t9) (cA ad s.heap.size)) (vx_X (fun (_ : Unit) => ¬ t.1 = 0) (fun E _ t9 => E = xn t.1 ∧ cB D Y ad mu t9) (cA ad s.heap.size)) args s 1 6 (cA ad s.heap.size)) (F0 m 9 ls [.int y0]) := by
  obtain ⟨⟨hx, hb, hml, hown, hts⟩, hr, hlk, hK⟩ := id X
  replace hf : (if y0 = 0 then (some (2, 0)) else (f4_rolling_14 mu fu x1 0)) = some t := hf
  refine rq_2 X hl0 hZ hH hl.1 qX4_49 ⟨Nat.le_of_ble_eq_true rfl, Nat.le_of_ble_eq_true rfl⟩ dX4_rolling_9 ⟨Nat.le_of_ble_eq_true rfl, Nat.le_of_ble_eq_true rfl⟩ ⟨Nat.le_of_ble_eq_true rfl, Nat.le_of_ble_eq_true rfl⟩ (fun c1 => ?_) (fun c1 => ?_)
  · have hf := it_t c1 hf
    obtain rfl := so_i hf
    exact ⟨rfl, rfl⟩
  have hf := it_f c1 hf
  refine lv_iconst (v := 0) hx hb dX4_rolling_12 (by decide) ?_
  refine lv_istore_n (lv' := [(2, .int 0), (0, .ref (ad 150)), (1, .int x1)]) hx hb dX4_rolling_13 rfl hl (by decide) rfl (fun ls hl => ?_)
  exact w4_rolling_14 X hI hl0 hZ _ _ _ _ _ hH _ (lv_sub hl [1, 2, 0] rfl) hf
def f4_rolling_0 (mu : Nat → Nat → Int32) (x1 : Int32) : Option (Int32 × Int32) := if x1 < 0 then (f4_rolling_9 mu x1 0) else (f4_rolling_9 mu x1 1)
set_option maxRecDepth 100000 in
set_option maxHeartbeats 4000000 in
theorem w4_rolling_0 {p : Program} {l : Launch} {e : Env} {s : State} {m : MethodId} {args : Array Value} {below : List Frame} {meth : Method} {c : Code} {D : va_G} {Y : cYt} {ad : Nat → Nat} {mu : Nat → Nat → Int32} (X : cX D Y p s m args meth c cX4_rolling 3 RX4 (some .int)) (hI : cInj ad) (hl0 : l.stackTraces = false) (hZ : c.exceptionTable.toList = [] ∧ zx (cA ad s.heap.size) s)  {x1 : Int32} {t : Int32 × Int32}  {H : Heap} {locs : List Loc} (hH : cH D Y ad mu s H locs) {ls : Array Slot} (hl : lv_has ls 3 [(0, .ref (ad 150)), (1, .int x1)]) (hf : f4_rolling_0 mu x1 = some t) : W p l e rm4_rolling s m args below meth c H locs 0 0 (vx_MQ below (va_Qi (fun (r9 : Int32) (_ : Unit) => r9 = t.2 ∧ t.1 = 0) (fun _ t9 => cB D Y ad mu t9) (cA ad s.heap.size)) (vx_X (fun (_ : Unit) => ¬ t.1 = 0) (fun E _ t9 => E = xn t.1 ∧ cB D Y ad mu t9) (cA ad s.heap.size)) args s 1 6 (cA ad s.heap.size)) (F0 m 0 ls []) := by
  obtain ⟨⟨hx, hb, hml, hown, hts⟩, hr, hlk, hK⟩ := id X
  replace hf : (if x1 < 0 then (f4_rolling_9 mu x1 0) else (f4_rolling_9 mu x1 1)) = some t := hf
  refine lv_iload_n hx hb dX4_rolling_0 rfl (lv_at hl 1 rfl) ?_
  refine lv_if_lt (tgt := 8) hx hb dX4_rolling_1 (by decide) (fun c1 => ?_) (fun c1 => ?_)
  · have hf := it_t c1 hf
    refine lv_iconst (v := 0) hx hb dX4_rolling_8 (by decide) ?_
    exact w4_rolling_9 X hI hl0 hZ hH (lv_sub hl [0, 1] rfl) hf
  · have hf := it_f c1 hf
    refine lv_iconst (v := 1) hx hb dX4_rolling_4 (by decide) ?_
    refine lv_goto (tgt := 9) hx hb dX4_rolling_5 (by decide) ?_
    exact w4_rolling_9 X hI hl0 hZ hH (lv_sub hl [0, 1] rfl) hf
set_option maxRecDepth 100000 in
set_option maxHeartbeats 4000000 in
theorem c4_rolling (l : Launch) {D : va_G} {Y : cYt} {ad : Nat → Nat} {mu : Nat → Nat → Int32} (hI : cInj ad) (hl0 : l.stackTraces = false) (sz : Nat) (x1 : Int32) {t : Int32 × Int32} (hf : f4_rolling_0 mu x1 = some t) : vx_Met l yX4_rolling uX4_rolling rm4_rolling (va_Pc [.ref (ad 150), .int x1] (fun U => U.heap.size = sz ∧ zx (cA ad sz) U ∧ cB D Y ad mu U)) (va_Qi (fun (r9 : Int32) (_ : Unit) => r9 = t.2 ∧ t.1 = 0) (fun _ t9 => cB D Y ad mu t9) (cA ad sz)) (vx_X (fun (_ : Unit) => ¬ t.1 = 0) (fun E _ t9 => E = xn t.1 ∧ cB D Y ad mu t9) (cA ad sz)) 1 6 (cA ad sz) := by
  refine vx_ofW (cc := cX4_rolling) (maxL := 3) (ret := (some .int)) (by decide) rfl ?_
  intro p e s m args below meth c s₁ B hml hx0 hv
  obtain ⟨rfl, hsz, hz, hP, hK⟩ := hv
  subst hsz
  have X : cX D Y p s m ([.ref (ad 150), .int x1] : List Value).toArray meth c cX4_rolling 3 RX4 (some .int) := ⟨⟨B.exec, B.bytes, hml, findClass_of_methodNamed B.named, fun w h => atoms_spec (ws := uX4_rolling) B.pre w (List.mem_cons_of_mem _ h)⟩, B.returns, B.notSynchronized, hK⟩
  have hl := lv_entry ([.ref (ad 150), .int x1]) (n := 3) (Nat.le_of_ble_eq_true rfl)
  rw [lg_entry_eq]
  generalize (lg_sl ([.ref (ad 150), .int x1]) ++ List.replicate (3 - (lg_sl ([.ref (ad 150), .int x1])).length) Slot.unset).toArray = ls at hl ⊢
  have hl : lv_has ls 3 [(0, .ref (ad 150)), (1, .int x1)] := hl
  exact w4_rolling_0 X hI hl0 ⟨List.eq_nil_iff_forall_not_mem.mpr (fun x h => hx0 x h), hz⟩ ⟨hP, va_S.rf⟩ (lv_sub hl [0, 1] rfl) hf
/-! OreRailway.count(I)I -/
def rm4_count : Room := { frames := 7, cells := 1, slots := 6, locals := 110 }
def f4_count_0 (mu : Nat → Nat → Int32) (x1 : Int32) : Option (Int32 × Int32) := Option.bind (f4_isWithin_0 x1 0 13) (fun t1 => if t1 = 0 then (some (2, 0)) else (if x1 = 9 then (some (0, mu 10 2)) else (if x1 = 10 then (some (0, mu 12 60)) else (Option.bind (f3_number_0 (mu 0) x1) (fun t5 => some (0, t5))))))
set_option maxRecDepth 100000 in
set_option maxHeartbeats 4000000 in
theorem w4_count_0 {p : Program} {l : Launch} {e : Env} {s : State} {m : MethodId} {args : Array Value} {below : List Frame} {meth : Method} {c : Code} {D : va_G} {Y : cYt} {ad : Nat → Nat} {mu : Nat → Nat → Int32} (X : cX D Y p s m args meth c cX4_count 2 RX4 (some .int)) (hI : cInj ad) (hl0 : l.stackTraces = false) (hZ : c.exceptionTable.toList = [] ∧ zx (cA ad s.heap.size) s)  {x1 : Int32} {t : Int32 × Int32}  {H : Heap} {locs : List Loc} (hH : cH D Y ad mu s H locs) {ls : Array Slot} (hl : lv_has ls 2 [(0, .ref (ad 150)), (1, .int x1)]) (hf : f4_count_0 mu x1 = some t) : W p l e rm4_count s m args below meth c H locs 0 0 (vx_MQ below (va_Qi (fun (r9 : Int32) (_ : Unit) => r9 = t.2 ∧ t.1 = 0) (fun _ t9 => cB D Y ad mu t9) (cA ad s.heap.size)) (vx_X (fun (_ : Unit) => ¬ t.1 = 0) (fun E _ t9 => E = xn t.1 ∧ cB D Y ad mu t9) (cA ad s.heap.size)) args s 1 6 (cA ad s.heap.size)) (F0 m 0 ls []) := by
  obtain ⟨⟨hx, hb, hml, hown, hts⟩, hr, hlk, hK⟩ := id X
  replace hf : (Option.bind (f4_isWithin_0 x1 0 13) (fun t1 => if t1 = 0 then (some (2, 0)) else (if x1 = 9 then (some (0, mu 10 2)) else (if x1 = 10 then (some (0, mu 12 60)) else (Option.bind (f3_number_0 (mu 0) x1) (fun t5 => some (0, t5))))))) = some t := hf
  refine lv_iload_n hx hb dX4_count_0 rfl (lv_at hl 1 rfl) ?_
  refine lv_iconst (v := 0) hx hb dX4_count_1 (by decide) ?_
  refine lv_bipush (v := 13) hx hb dX4_count_2 (by decide) ?_
  obtain ⟨t1, ht1, hf⟩ := bd_o hf
  refine k4_isWithin X.1 hl.1 qX4_45 ⟨Nat.le_of_ble_eq_true rfl, Nat.le_of_ble_eq_true rfl⟩ ht1 (Nat.le_of_ble_eq_true rfl) dX4_count_4 ⟨Nat.le_of_ble_eq_true rfl, Nat.le_of_ble_eq_true rfl⟩ ?_
  refine rq_2 X hl0 hZ hH hl.1 qX4_49 ⟨Nat.le_of_ble_eq_true rfl, Nat.le_of_ble_eq_true rfl⟩ dX4_count_7 ⟨Nat.le_of_ble_eq_true rfl, Nat.le_of_ble_eq_true rfl⟩ ⟨Nat.le_of_ble_eq_true rfl, Nat.le_of_ble_eq_true rfl⟩ (fun c2 => ?_) (fun c2 => ?_)
  · have hf := it_t c2 hf
    obtain rfl := so_i hf
    exact ⟨rfl, rfl⟩
  have hf := it_f c2 hf
  refine lv_iload_n hx hb dX4_count_10 rfl (lv_at hl 1 rfl) ?_
  by_cases c3 : x1 = 9
  · have hf := it_t c3 hf
    refine lv_lookup (off := 25) (tgt := 36) hx hb dX4_count_11 (by decide) (by rw [c3]; decide) (by decide) ?_
    refine lv_aload_n hx hb dX4_count_36 rfl (lv_at hl 0 rfl) ?_
    refine cr_gRa X hH.1 (i := 2) (v := .ref (ad 151)) (by decide) gfX4_22 rfl dX4_count_37 ?_
    refine cr_gHi X hH.1 (i := 2) (v := .int (mu 10 2)) (by decide) gfX4_138 rfl dX4_count_40 ?_
    obtain rfl := so_i hf
    exact cx_iw X hH rfl rfl (Nat.le_of_ble_eq_true rfl) (Nat.le_of_ble_eq_true rfl) dX4_count_43
  · have hf := it_f c3 hf
    by_cases c4 : x1 = 10
    · have hf := it_t c4 hf
      refine lv_lookup (off := 33) (tgt := 44) hx hb dX4_count_11 (by decide) (by rw [c4]; decide) (by decide) ?_
      refine lv_aload_n hx hb dX4_count_44 rfl (lv_at hl 0 rfl) ?_
      refine cr_gRa X hH.1 (i := 5) (v := .ref (ad 155)) (by decide) gfX4_37 rfl dX4_count_45 ?_
      refine cr_gOr X rfl hH.1 (i := 1) (v := .int (mu 12 60)) (by decide) gfX4_122 rfl dX4_count_48 ?_
      obtain rfl := so_i hf
      exact cx_iw X hH rfl rfl (Nat.le_of_ble_eq_true rfl) (Nat.le_of_ble_eq_true rfl) dX4_count_51
    · have hf := it_f c4 hf
      refine lv_lookup (off := 41) (tgt := 52) hx hb dX4_count_11 (by decide) ?_ (by decide) ?_
      · show Op.lookupswitch.offset [(9, 25), (10, 33)] 41 (Int32.toInt x1) = _
        rw [lv_osw c3 (by decide), lv_osw c4 (by decide)]; rfl
      refine lv_aload_n hx hb dX4_count_52 rfl (lv_at hl 0 rfl) ?_
      refine cr_gRa X hH.1 (i := 0) (v := .ref (ad (15 * 0))) (by decide) gfX4_10 rfl dX4_count_53 ?_
      refine lv_iload_n hx hb dX4_count_56 rfl (lv_at hl 1 rfl) ?_
      obtain ⟨t5, ht5, hf⟩ := bd_o hf
      refine k3_number X (k := 0) (by omega) rfl hH.1 hl.1 qX4_174 ⟨Nat.le_of_ble_eq_true rfl, Nat.le_of_ble_eq_true rfl⟩ ht5 (Nat.le_of_ble_eq_true rfl) dX4_count_57 ⟨Nat.le_of_ble_eq_true rfl, Nat.le_of_ble_eq_true rfl⟩ ?_
      obtain rfl := so_i hf
      exact cx_iw X hH rfl rfl (Nat.le_of_ble_eq_true rfl) (Nat.le_of_ble_eq_true rfl) dX4_count_60
set_option maxRecDepth 100000 in
set_option maxHeartbeats 4000000 in
theorem c4_count (l : Launch) {D : va_G} {Y : cYt} {ad : Nat → Nat} {mu : Nat → Nat → Int32} (hI : cInj ad) (hl0 : l.stackTraces = false) (sz : Nat) (x1 : Int32) {t : Int32 × Int32} (hf : f4_count_0 mu x1 = some t) : vx_Met l yX4_count uX4_count rm4_count (va_Pc [.ref (ad 150), .int x1] (fun U => U.heap.size = sz ∧ zx (cA ad sz) U ∧ cB D Y ad mu U)) (va_Qi (fun (r9 : Int32) (_ : Unit) => r9 = t.2 ∧ t.1 = 0) (fun _ t9 => cB D Y ad mu t9) (cA ad sz)) (vx_X (fun (_ : Unit) => ¬ t.1 = 0) (fun E _ t9 => E = xn t.1 ∧ cB D Y ad mu t9) (cA ad sz)) 1 6 (cA ad sz) := by
  refine vx_ofW (cc := cX4_count) (maxL := 2) (ret := (some .int)) (by decide) rfl ?_
  intro p e s m args below meth c s₁ B hml hx0 hv
  obtain ⟨rfl, hsz, hz, hP, hK⟩ := hv
  subst hsz
  have X : cX D Y p s m ([.ref (ad 150), .int x1] : List Value).toArray meth c cX4_count 2 RX4 (some .int) := ⟨⟨B.exec, B.bytes, hml, findClass_of_methodNamed B.named, fun w h => atoms_spec (ws := uX4_count) B.pre w (List.mem_cons_of_mem _ h)⟩, B.returns, B.notSynchronized, hK⟩
  have hl := lv_entry ([.ref (ad 150), .int x1]) (n := 2) (Nat.le_of_ble_eq_true rfl)
  rw [lg_entry_eq]
  generalize (lg_sl ([.ref (ad 150), .int x1]) ++ List.replicate (2 - (lg_sl ([.ref (ad 150), .int x1])).length) Slot.unset).toArray = ls at hl ⊢
  have hl : lv_has ls 2 [(0, .ref (ad 150)), (1, .int x1)] := hl
  exact w4_count_0 X hI hl0 ⟨List.eq_nil_iff_forall_not_mem.mpr (fun x h => hx0 x h), hz⟩ ⟨hP, va_S.rf⟩ (lv_sub hl [0, 1] rfl) hf
/-! OreRailway.refusal(IZ)I -/
def rm4_refusal : Room := { frames := 7, cells := 1, slots := 6, locals := 110 }
def f4_refusal_34 (mu : Nat → Nat → Int32) (y0 : Int32) : Option (Int32 × Int32) := some (0, y0)
set_option maxRecDepth 100000 in
set_option maxHeartbeats 4000000 in
theorem w4_refusal_34 {p : Program} {l : Launch} {e : Env} {s : State} {m : MethodId} {args : Array Value} {below : List Frame} {meth : Method} {c : Code} {D : va_G} {Y : cYt} {ad : Nat → Nat} {mu : Nat → Nat → Int32} (X : cX D Y p s m args meth c cX4_refusal 3 RX4 (some .int)) (hI : cInj ad) (hl0 : l.stackTraces = false) (hZ : c.exceptionTable.toList = [] ∧ zx (cA ad s.heap.size) s)  {y0 : Int32} {t : Int32 × Int32}  {H : Heap} {locs : List Loc} (hH : cH D Y ad mu s H locs) {ls : Array Slot} (hl : lv_has ls 3 []) (hf : f4_refusal_34 mu y0 = some t) : W p l e rm4_refusal s m args below meth c H locs 1 6 (vx_MQ below (va_Qi (fun (r9 : Int32) (_ : Unit) => r9 = t.2 ∧ t.1 = 0) (fun _ t9 => cB D Y ad mu t9) (cA ad s.heap.size)) (vx_X (fun (_ : Unit) => ¬ t.1 = 0) (fun E _ t9 => E = xn t.1 ∧ cB D Y ad mu t9) (cA ad s.heap.size)) args s 1 6 (cA ad s.heap.size)) (F0 m 34 ls [.int y0]) := by
  obtain ⟨⟨hx, hb, hml, hown, hts⟩, hr, hlk, hK⟩ := id X
  replace hf : (some (0, y0)) = some t := hf
  obtain rfl := so_i hf
  exact cx_iw X hH rfl rfl (Nat.le_of_ble_eq_true rfl) (Nat.le_of_ble_eq_true rfl) dX4_refusal_34
def f4_refusal_0 (mu : Nat → Nat → Int32) (x1 : Int32) (x2 : Int32) : Option (Int32 × Int32) := Option.bind (f3_hasCar_0 (mu 0) x1) (fun t1 => if t1 = 0 then (some (1, 0)) else (if x2 = 0 then (Option.bind (f3_pullRefusal_0 (mu 0) x1) (fun t4 => f4_refusal_34 mu t4)) else (Option.bind (f3_releaseRefusal_0 (mu 0) x1) (fun t5 => f4_refusal_34 mu t5))))
set_option maxRecDepth 100000 in
set_option maxHeartbeats 4000000 in
theorem w4_refusal_0 {p : Program} {l : Launch} {e : Env} {s : State} {m : MethodId} {args : Array Value} {below : List Frame} {meth : Method} {c : Code} {D : va_G} {Y : cYt} {ad : Nat → Nat} {mu : Nat → Nat → Int32} (X : cX D Y p s m args meth c cX4_refusal 3 RX4 (some .int)) (hI : cInj ad) (hl0 : l.stackTraces = false) (hZ : c.exceptionTable.toList = [] ∧ zx (cA ad s.heap.size) s)  {x1 : Int32} {x2 : Int32} {t : Int32 × Int32}  {H : Heap} {locs : List Loc} (hH : cH D Y ad mu s H locs) {ls : Array Slot} (hl : lv_has ls 3 [(0, .ref (ad 150)), (1, .int x1), (2, .int x2)]) (hf : f4_refusal_0 mu x1 x2 = some t) : W p l e rm4_refusal s m args below meth c H locs 0 0 (vx_MQ below (va_Qi (fun (r9 : Int32) (_ : Unit) => r9 = t.2 ∧ t.1 = 0) (fun _ t9 => cB D Y ad mu t9) (cA ad s.heap.size)) (vx_X (fun (_ : Unit) => ¬ t.1 = 0) (fun E _ t9 => E = xn t.1 ∧ cB D Y ad mu t9) (cA ad s.heap.size)) args s 1 6 (cA ad s.heap.size)) (F0 m 0 ls []) := by
  obtain ⟨⟨hx, hb, hml, hown, hts⟩, hr, hlk, hK⟩ := id X
  replace hf : (Option.bind (f3_hasCar_0 (mu 0) x1) (fun t1 => if t1 = 0 then (some (1, 0)) else (if x2 = 0 then (Option.bind (f3_pullRefusal_0 (mu 0) x1) (fun t4 => f4_refusal_34 mu t4)) else (Option.bind (f3_releaseRefusal_0 (mu 0) x1) (fun t5 => f4_refusal_34 mu t5))))) = some t := hf
  refine lv_aload_n hx hb dX4_refusal_0 rfl (lv_at hl 0 rfl) ?_
  refine cr_gRa X hH.1 (i := 0) (v := .ref (ad (15 * 0))) (by decide) gfX4_10 rfl dX4_refusal_1 ?_
  refine lv_iload_n hx hb dX4_refusal_4 rfl (lv_at hl 1 rfl) ?_
  obtain ⟨t1, ht1, hf⟩ := bd_o hf
  refine k3_hasCar X (k := 0) (by omega) rfl hH.1 hl.1 qX4_77 ⟨Nat.le_of_ble_eq_true rfl, Nat.le_of_ble_eq_true rfl⟩ ht1 (Nat.le_of_ble_eq_true rfl) dX4_refusal_5 ⟨Nat.le_of_ble_eq_true rfl, Nat.le_of_ble_eq_true rfl⟩ ?_
  refine rq_1 X hl0 hZ hH hl.1 qX4_41 ⟨Nat.le_of_ble_eq_true rfl, Nat.le_of_ble_eq_true rfl⟩ dX4_refusal_8 ⟨Nat.le_of_ble_eq_true rfl, Nat.le_of_ble_eq_true rfl⟩ ⟨Nat.le_of_ble_eq_true rfl, Nat.le_of_ble_eq_true rfl⟩ (fun c2 => ?_) (fun c2 => ?_)
  · have hf := it_t c2 hf
    obtain rfl := so_i hf
    exact ⟨rfl, rfl⟩
  have hf := it_f c2 hf
  refine lv_iload_n hx hb dX4_refusal_11 rfl (lv_at hl 2 rfl) ?_
  refine lv_if_eq (tgt := 26) hx hb dX4_refusal_12 (by decide) (fun c3 => ?_) (fun c3 => ?_)
  · have hf := it_t c3 hf
    refine lv_aload_n hx hb dX4_refusal_26 rfl (lv_at hl 0 rfl) ?_
    refine cr_gRa X hH.1 (i := 0) (v := .ref (ad (15 * 0))) (by decide) gfX4_10 rfl dX4_refusal_27 ?_
    refine lv_iload_n hx hb dX4_refusal_30 rfl (lv_at hl 1 rfl) ?_
    obtain ⟨t4, ht4, hf⟩ := bd_o hf
    refine k3_pullRefusal X (k := 0) (by omega) rfl hH.1 hl.1 qX4_178 ⟨Nat.le_of_ble_eq_true rfl, Nat.le_of_ble_eq_true rfl⟩ ht4 (Nat.le_of_ble_eq_true rfl) dX4_refusal_31 ⟨Nat.le_of_ble_eq_true rfl, Nat.le_of_ble_eq_true rfl⟩ ?_
    exact w4_refusal_34 X hI hl0 hZ hH (lv_sub hl [] rfl) hf
  · have hf := it_f c3 hf
    refine lv_aload_n hx hb dX4_refusal_15 rfl (lv_at hl 0 rfl) ?_
    refine cr_gRa X hH.1 (i := 0) (v := .ref (ad (15 * 0))) (by decide) gfX4_10 rfl dX4_refusal_16 ?_
    refine lv_iload_n hx hb dX4_refusal_19 rfl (lv_at hl 1 rfl) ?_
    obtain ⟨t5, ht5, hf⟩ := bd_o hf
    refine k3_releaseRefusal X (k := 0) (by omega) rfl hH.1 hl.1 qX4_175 ⟨Nat.le_of_ble_eq_true rfl, Nat.le_of_ble_eq_true rfl⟩ ht5 (Nat.le_of_ble_eq_true rfl) dX4_refusal_20 ⟨Nat.le_of_ble_eq_true rfl, Nat.le_of_ble_eq_true rfl⟩ ?_
    refine lv_goto (tgt := 34) hx hb dX4_refusal_23 (by decide) ?_
    exact w4_refusal_34 X hI hl0 hZ hH (lv_sub hl [] rfl) hf
set_option maxRecDepth 100000 in
set_option maxHeartbeats 4000000 in
theorem c4_refusal (l : Launch) {D : va_G} {Y : cYt} {ad : Nat → Nat} {mu : Nat → Nat → Int32} (hI : cInj ad) (hl0 : l.stackTraces = false) (sz : Nat) (x1 : Int32) (x2 : Int32) {t : Int32 × Int32} (hf : f4_refusal_0 mu x1 x2 = some t) : vx_Met l yX4_refusal uX4_refusal rm4_refusal (va_Pc [.ref (ad 150), .int x1, .int x2] (fun U => U.heap.size = sz ∧ zx (cA ad sz) U ∧ cB D Y ad mu U)) (va_Qi (fun (r9 : Int32) (_ : Unit) => r9 = t.2 ∧ t.1 = 0) (fun _ t9 => cB D Y ad mu t9) (cA ad sz)) (vx_X (fun (_ : Unit) => ¬ t.1 = 0) (fun E _ t9 => E = xn t.1 ∧ cB D Y ad mu t9) (cA ad sz)) 1 6 (cA ad sz) := by
  refine vx_ofW (cc := cX4_refusal) (maxL := 3) (ret := (some .int)) (by decide) rfl ?_
  intro p e s m args below meth c s₁ B hml hx0 hv
  obtain ⟨rfl, hsz, hz, hP, hK⟩ := hv
  subst hsz
  have X : cX D Y p s m ([.ref (ad 150), .int x1, .int x2] : List Value).toArray meth c cX4_refusal 3 RX4 (some .int) := ⟨⟨B.exec, B.bytes, hml, findClass_of_methodNamed B.named, fun w h => atoms_spec (ws := uX4_refusal) B.pre w (List.mem_cons_of_mem _ h)⟩, B.returns, B.notSynchronized, hK⟩
  have hl := lv_entry ([.ref (ad 150), .int x1, .int x2]) (n := 3) (Nat.le_of_ble_eq_true rfl)
  rw [lg_entry_eq]
  generalize (lg_sl ([.ref (ad 150), .int x1, .int x2]) ++ List.replicate (3 - (lg_sl ([.ref (ad 150), .int x1, .int x2])).length) Slot.unset).toArray = ls at hl ⊢
  have hl : lv_has ls 3 [(0, .ref (ad 150)), (1, .int x1), (2, .int x2)] := hl
  exact w4_refusal_0 X hI hl0 ⟨List.eq_nil_iff_forall_not_mem.mpr (fun x h => hx0 x h), hz⟩ ⟨hP, va_S.rf⟩ (lv_sub hl [0, 1, 2] rfl) hf
/-! OreRailway.tryAlone(II)I -/
def rm4_tryAlone : Room := { frames := 4, cells := 0, slots := 0, locals := 93 }
def f4_tryAlone_53 (x3 : Int32) (mu : Nat → Nat → Int32) : Option (Int32 × (Nat → Nat → Int32)) := some (x3, mu)
set_option maxRecDepth 100000 in
set_option maxHeartbeats 4000000 in
theorem w4_tryAlone_53 {p : Program} {l : Launch} {e : Env} {s : State} {m : MethodId} {args : Array Value} {below : List Frame} {meth : Method} {c : Code} {D : va_G} {Y : cYt} {ad : Nat → Nat} {mu : Nat → Nat → Int32} (X : cX D Y p s m args meth c cX4_tryAlone 4 RX4 (some .int)) (hI : cInj ad)  {x3 : Int32} {t : Int32 × (Nat → Nat → Int32)}  {H : Heap} {locs : List Loc} (hH : cH D Y ad mu s H locs) {ls : Array Slot} (hl : lv_has ls 4 [(3, .int x3)]) (hf : f4_tryAlone_53 x3 mu = some t) : W p l e rm4_tryAlone s m args below meth c H locs 0 0 (MQ below (va_Qi (fun (r9 : Int32) (_ : Unit) => r9 = t.1) (fun _ t9 => cB D Y ad t.2 t9) (cA ad s.heap.size)) args s 0 0 (cA ad s.heap.size)) (F0 m 53 ls []) := by
  obtain ⟨⟨hx, hb, hml, hown, hts⟩, hr, hlk, hK⟩ := id X
  replace hf : (some (x3, mu)) = some t := hf
  refine lv_iload_n hx hb dX4_tryAlone_53 rfl (lv_at hl 0 rfl) ?_
  obtain rfl := so_i hf
  exact cr_iw X hH rfl dX4_tryAlone_54
def f4_tryAlone_22 : Nat → Int32 → (Nat → Nat → Int32) → Option (Int32 × (Nat → Nat → Int32))
  | 0, _, _ => none
  | n + 1, x3, mu => if 200 ≤ x3 then (f4_tryAlone_53 x3 mu) else (Option.bind (f3_isRolling_0 (mu 1) 0) (fun t2 => if t2 = 0 then (f4_tryAlone_53 x3 mu) else (Option.bind (f3_passTick_0 (mu 1) (mu (1 + 20))) (fun t4 => (f4_tryAlone_22 n) (x3 + 1) (s1 (s1 mu (1 + 20) t4.2) 1 t4.1)))))
set_option maxRecDepth 100000 in
set_option maxHeartbeats 4000000 in
theorem w4_tryAlone_22 {p : Program} {l : Launch} {e : Env} {s : State} {m : MethodId} {args : Array Value} {below : List Frame} {meth : Method} {c : Code} {D : va_G} {Y : cYt} {ad : Nat → Nat} (X : cX D Y p s m args meth c cX4_tryAlone 4 RX4 (some .int)) (hI : cInj ad)  {t : Int32 × (Nat → Nat → Int32)} :
    ∀ (n : Nat) (x3 : Int32) (mu : Nat → Nat → Int32) (H : Heap) (locs : List Loc), cH D Y ad mu s H locs → ∀ (ls : Array Slot), lv_has ls 4 [(0, .ref (ad 150)), (3, .int x3)] → f4_tryAlone_22 n x3 mu = some t → W p l e rm4_tryAlone s m args below meth c H locs 0 0 (MQ below (va_Qi (fun (r9 : Int32) (_ : Unit) => r9 = t.1) (fun _ t9 => cB D Y ad t.2 t9) (cA ad s.heap.size)) args s 0 0 (cA ad s.heap.size)) (F0 m 22 ls []) := by
  obtain ⟨⟨hx, hb, hml, hown, hts⟩, hr, hlk, hK⟩ := id X
  intro n
  induction n with
  | zero =>
    intro x3 mu H locs hH ls hl hf
    cases hf
  | succ n ih =>
    intro x3 mu H locs hH ls hl hf
    replace hf : (if 200 ≤ x3 then (f4_tryAlone_53 x3 mu) else (Option.bind (f3_isRolling_0 (mu 1) 0) (fun t2 => if t2 = 0 then (f4_tryAlone_53 x3 mu) else (Option.bind (f3_passTick_0 (mu 1) (mu (1 + 20))) (fun t4 => (f4_tryAlone_22 n) (x3 + 1) (s1 (s1 mu (1 + 20) t4.2) 1 t4.1)))))) = some t := hf
    refine lv_iload_n hx hb dX4_tryAlone_22 rfl (lv_at hl 1 rfl) ?_
    refine lv_sipush (v := 200) hx hb dX4_tryAlone_23 (by decide) ?_
    refine lv_icmp_ge (tgt := 53) hx hb dX4_tryAlone_26 (by decide) (fun c1 => ?_) (fun c1 => ?_)
    · have hf := it_t c1 hf
      exact w4_tryAlone_53 X hI hH (lv_sub hl [1] rfl) hf
    · have hf := it_f c1 hf
      refine lv_aload_n hx hb dX4_tryAlone_29 rfl (lv_at hl 0 rfl) ?_
      refine cr_gRa X hH.1 (i := 1) (v := .ref (ad (15 * 1))) (by decide) gfX4_16 rfl dX4_tryAlone_30 ?_
      refine lv_iconst (v := 0) hx hb dX4_tryAlone_33 (by decide) ?_
      obtain ⟨t2, ht2, hf⟩ := bd_o hf
      refine k3_isRolling X (k := 1) (by omega) rfl hH.1 hl.1 qX4_92 ⟨Nat.le_of_ble_eq_true rfl, Nat.le_of_ble_eq_true rfl⟩ ht2 (Nat.le_of_ble_eq_true rfl) dX4_tryAlone_34 ⟨Nat.le_of_ble_eq_true rfl, Nat.le_of_ble_eq_true rfl⟩ ?_
      refine lv_if_eq (tgt := 53) hx hb dX4_tryAlone_37 (by decide) (fun c3 => ?_) (fun c3 => ?_)
      · have hf := it_t c3 hf
        exact w4_tryAlone_53 X hI hH (lv_sub hl [1] rfl) hf
      · have hf := it_f c3 hf
        refine lv_aload_n hx hb dX4_tryAlone_40 rfl (lv_at hl 0 rfl) ?_
        refine cr_gRa X hH.1 (i := 1) (v := .ref (ad (15 * 1))) (by decide) gfX4_16 rfl dX4_tryAlone_41 ?_
        obtain ⟨t4, ht4, hf⟩ := bd_o hf
        refine km3_passTick X hI (k := 1) (by omega) hH hl.1 qX4_232 ⟨Nat.le_of_ble_eq_true rfl, Nat.le_of_ble_eq_true rfl⟩ ht4 (Nat.le_of_ble_eq_true rfl) dX4_tryAlone_44 ⟨Nat.le_of_ble_eq_true rfl, Nat.le_of_ble_eq_true rfl⟩ (fun H locs hH => ?_)
        refine lv_iinc (v := x3 + 1) (lv' := [(3, .int (x3 + 1)), (0, .ref (ad 150))]) hx hb dX4_tryAlone_47 hl (k := 1) rfl rfl (by decide) rfl (fun ls hl => ?_)
        refine lv_goto (tgt := 22) hx hb dX4_tryAlone_50 (by decide) ?_
        exact ih _ _ _ _ hH _ (lv_sub hl [1, 0] rfl) hf
def f4_tryAlone_0 (x1 : Int32) (x2 : Int32) (mu : Nat → Nat → Int32) : Option (Int32 × (Nat → Nat → Int32)) := Option.bind (f3_copyFrom_0 (mu 0) (mu 1)) (fun t1 => Option.bind (f3_leaveOneCar_0 x1 x2 ((s1 mu 1 t1) 1)) (fun t2 => f4_tryAlone_22 fu 0 (s1 (s1 mu 1 t1) 1 t2)))
set_option maxRecDepth 100000 in
set_option maxHeartbeats 4000000 in
theorem w4_tryAlone_0 {p : Program} {l : Launch} {e : Env} {s : State} {m : MethodId} {args : Array Value} {below : List Frame} {meth : Method} {c : Code} {D : va_G} {Y : cYt} {ad : Nat → Nat} {mu : Nat → Nat → Int32} (X : cX D Y p s m args meth c cX4_tryAlone 4 RX4 (some .int)) (hI : cInj ad)  {x1 : Int32} {x2 : Int32} {t : Int32 × (Nat → Nat → Int32)}  {H : Heap} {locs : List Loc} (hH : cH D Y ad mu s H locs) {ls : Array Slot} (hl : lv_has ls 4 [(0, .ref (ad 150)), (1, .int x1), (2, .int x2)]) (hf : f4_tryAlone_0 x1 x2 mu = some t) : W p l e rm4_tryAlone s m args below meth c H locs 0 0 (MQ below (va_Qi (fun (r9 : Int32) (_ : Unit) => r9 = t.1) (fun _ t9 => cB D Y ad t.2 t9) (cA ad s.heap.size)) args s 0 0 (cA ad s.heap.size)) (F0 m 0 ls []) := by
  obtain ⟨⟨hx, hb, hml, hown, hts⟩, hr, hlk, hK⟩ := id X
  replace hf : (Option.bind (f3_copyFrom_0 (mu 0) (mu 1)) (fun t1 => Option.bind (f3_leaveOneCar_0 x1 x2 ((s1 mu 1 t1) 1)) (fun t2 => f4_tryAlone_22 fu 0 (s1 (s1 mu 1 t1) 1 t2)))) = some t := hf
  refine lv_aload_n hx hb dX4_tryAlone_0 rfl (lv_at hl 0 rfl) ?_
  refine cr_gRa X hH.1 (i := 1) (v := .ref (ad (15 * 1))) (by decide) gfX4_16 rfl dX4_tryAlone_1 ?_
  refine lv_aload_n hx hb dX4_tryAlone_4 rfl (lv_at hl 0 rfl) ?_
  refine cr_gRa X hH.1 (i := 0) (v := .ref (ad (15 * 0))) (by decide) gfX4_10 rfl dX4_tryAlone_5 ?_
  obtain ⟨t1, ht1, hf⟩ := bd_o hf
  refine km3_copyFrom X hI (k := 1) (by omega) (k2 := 0) (by omega) (by omega) hH hl.1 qX4_144 ⟨Nat.le_of_ble_eq_true rfl, Nat.le_of_ble_eq_true rfl⟩ ht1 (Nat.le_of_ble_eq_true rfl) dX4_tryAlone_8 ⟨Nat.le_of_ble_eq_true rfl, Nat.le_of_ble_eq_true rfl⟩ (fun H locs hH => ?_)
  refine lv_aload_n hx hb dX4_tryAlone_11 rfl (lv_at hl 0 rfl) ?_
  refine cr_gRa X hH.1 (i := 1) (v := .ref (ad (15 * 1))) (by decide) gfX4_16 rfl dX4_tryAlone_12 ?_
  refine lv_iload_n hx hb dX4_tryAlone_15 rfl (lv_at hl 1 rfl) ?_
  refine lv_iload_n hx hb dX4_tryAlone_16 rfl (lv_at hl 2 rfl) ?_
  obtain ⟨t2, ht2, hf⟩ := bd_o hf
  refine km3_leaveOneCar X hI (k := 1) (by omega) hH hl.1 qX4_228 ⟨Nat.le_of_ble_eq_true rfl, Nat.le_of_ble_eq_true rfl⟩ ht2 (Nat.le_of_ble_eq_true rfl) dX4_tryAlone_17 ⟨Nat.le_of_ble_eq_true rfl, Nat.le_of_ble_eq_true rfl⟩ (fun H locs hH => ?_)
  refine lv_iconst (v := 0) hx hb dX4_tryAlone_20 (by decide) ?_
  refine lv_istore_n (lv' := [(3, .int 0), (0, .ref (ad 150)), (1, .int x1), (2, .int x2)]) hx hb dX4_tryAlone_21 rfl hl (by decide) rfl (fun ls hl => ?_)
  exact w4_tryAlone_22 X hI _ _ _ _ _ hH _ (lv_sub hl [1, 0] rfl) hf
set_option maxRecDepth 100000 in
set_option maxHeartbeats 4000000 in
theorem c4_tryAlone (l : Launch) {D : va_G} {Y : cYt} {ad : Nat → Nat} {mu : Nat → Nat → Int32} (hI : cInj ad) (sz : Nat) (x1 : Int32) (x2 : Int32) {t : Int32 × (Nat → Nat → Int32)} (hf : f4_tryAlone_0 x1 x2 mu = some t) : Met l yX4_tryAlone uX4_tryAlone rm4_tryAlone (va_Pc [.ref (ad 150), .int x1, .int x2] (fun U => U.heap.size = sz ∧ cB D Y ad mu U)) (va_Qi (fun (r9 : Int32) (_ : Unit) => r9 = t.1) (fun _ t9 => cB D Y ad t.2 t9) (cA ad sz)) 0 0 (cA ad sz) := by
  refine Met.ofW (cc := cX4_tryAlone) (maxL := 4) (ret := (some .int)) (by decide) rfl ?_
  intro p e s m args below meth c s₁ B hml hv
  obtain ⟨rfl, hsz, hP, hK⟩ := hv
  subst hsz
  have X : cX D Y p s m ([.ref (ad 150), .int x1, .int x2] : List Value).toArray meth c cX4_tryAlone 4 RX4 (some .int) := ⟨⟨B.exec, B.bytes, hml, findClass_of_methodNamed B.named, fun w h => atoms_spec (ws := uX4_tryAlone) B.pre w (List.mem_cons_of_mem _ h)⟩, B.returns, B.notSynchronized, hK⟩
  have hl := lv_entry ([.ref (ad 150), .int x1, .int x2]) (n := 4) (Nat.le_of_ble_eq_true rfl)
  rw [lg_entry_eq]
  generalize (lg_sl ([.ref (ad 150), .int x1, .int x2]) ++ List.replicate (4 - (lg_sl ([.ref (ad 150), .int x1, .int x2])).length) Slot.unset).toArray = ls at hl ⊢
  have hl : lv_has ls 4 [(0, .ref (ad 150)), (1, .int x1), (2, .int x2)] := hl
  exact w4_tryAlone_0 X hI ⟨hP, va_S.rf⟩ (lv_sub hl [0, 1, 2] rfl) hf
set_option maxRecDepth 100000 in
set_option maxHeartbeats 4000000 in
theorem k4_tryAlone {p : Program} {l : Launch} {e : Env} {R : Room} {s : State} {m : MethodId} {args : Array Value} {below : List Frame} {meth : Method} {c : Code} {cc : ByteArray} {nL : Nat} {own : String} {ret : Option FieldType} {D : va_G} {Y : cYt} {ad : Nat → Nat} {mu : Nat → Nat → Int32} {H : Heap} {locs : List Loc} {cells slots : Nat} {Q : State → Prop} {pc : Nat} {ls : Array Slot} {rest : List Value} (X : cX D Y p s m args meth c cc nL own ret) (hI : cInj ad) (hH : cH D Y ad mu s H locs) (hls : ls.size = nL) {index : Nat} (hG : GoodIn gw (wsV own index RX4 yX4_tryAlone uX4_tryAlone)) (hR : rm4_tryAlone.frames + 1 ≤ R.frames ∧ 8 + (4 + 11) + rm4_tryAlone.locals ≤ R.locals) {x1 : Int32} {x2 : Int32} {t : Int32 × (Nat → Nat → Int32)} (hf : f4_tryAlone_0 x1 x2 mu = some t) (hrest : (rest.map fun v => v.category).sum ≤ 8) (hdg : decode cc pc = .ok (.invokevirtual index, 3)) (hc : cells ≤ R.cells ∧ slots ≤ R.slots) (kk : ∀ (H1 : Heap) (locs1 : List Loc), cH D Y ad t.2 s H1 locs1 → W p l e R s m args below meth c H1 locs1 cells slots Q (F0 m (pc + 3) ls (.int t.1 :: rest))) : W p l e R s m args below meth c H locs cells slots Q (F0 m pc ls (.int x2 :: .int x1 :: .ref (ad 150) :: rest)) := by
  have hA : ∀ q, cA ad H.size q → cA ad s.heap.size q := fun q h => h.elim Or.inl (fun h => Or.inr (Nat.le_trans hH.2.1 h))
  refine va_calli (va_runV (As := [.int x1, .int x2]) (rest := rest) X.1 (c4_tryAlone l hI H.size x1 x2 hf) (cwV 2 X.1.2.2.2.2 hG rfl rfl rfl (by decide +kernel) hR) ⟨cBs_bl, va_recv X.2.2.2 hH.1 (ci := 4) (q0 := 150) rfl (cw_ate (by omega) rfl), fun U hU hW => ⟨rfl, by rw [hU], by rw [hU]; exact hH.1, va_K.moved hW.alike X.2.2.2⟩⟩ rfl rfl hls rfl (lv_room hrest) hdg hc) hH.2 (fun q _ h => hA q h) hA (fun r9 u t9 H1 locs1 ht hvm hw hB hz1 hk1 hS => ?_)
  subst hw
  exact kk H1 locs1 ⟨by rw [← ht]; exact hB.1, hS⟩
/-! OreRailway.ifAlone(III)I -/
def rm4_ifAlone : Room := { frames := 7, cells := 3, slots := 18, locals := 116 }
def f4_ifAlone_0 (x1 : Int32) (x2 : Int32) (x3 : Int32) (mu : Nat → Nat → Int32) : Option (Int32 × Int32 × (Nat → Nat → Int32)) := Option.bind (f4_isWithin_0 x1 0 20) (fun t1 => if t1 = 0 then (some (2, 0, mu)) else (Option.bind (f4_isWithin_0 x2 0 9) (fun t3 => if t3 = 0 then (some (2, 0, mu)) else (Option.bind (f4_isWithin_0 x3 0 4) (fun t5 => if t5 = 0 then (some (2, 0, mu)) else (Option.bind (f4_tryAlone_0 x1 x2 mu) (fun t7 => gd 0 8 (if x3 = 0 then (some (0, t7.2 1 (90 + 9 * ((Int32.toNatClampNeg 0)) + 0), t7.2)) else (if x3 = 1 then (some (0, t7.1, t7.2)) else (if x3 = 2 then (some (0, t7.2 1 (90 + 9 * ((Int32.toNatClampNeg 0)) + 6), t7.2)) else (if x3 = 3 then (some (0, t7.2 1 (90 + 9 * ((Int32.toNatClampNeg 0)) + 4), t7.2)) else (some (0, t7.2 1 (90 + 9 * ((Int32.toNatClampNeg 0)) + 8), t7.2)))))))))))))
set_option maxRecDepth 100000 in
set_option maxHeartbeats 4000000 in
theorem w4_ifAlone_0 {p : Program} {l : Launch} {e : Env} {s : State} {m : MethodId} {args : Array Value} {below : List Frame} {meth : Method} {c : Code} {D : va_G} {Y : cYt} {ad : Nat → Nat} {mu : Nat → Nat → Int32} (X : cX D Y p s m args meth c cX4_ifAlone 6 RX4 (some .int)) (hI : cInj ad) (hl0 : l.stackTraces = false) (hZ : c.exceptionTable.toList = [] ∧ zx (cA ad s.heap.size) s)  {x1 : Int32} {x2 : Int32} {x3 : Int32} {t : Int32 × Int32 × (Nat → Nat → Int32)}  {H : Heap} {locs : List Loc} (hH : cH D Y ad mu s H locs) {ls : Array Slot} (hl : lv_has ls 6 [(0, .ref (ad 150)), (1, .int x1), (2, .int x2), (3, .int x3)]) (hf : f4_ifAlone_0 x1 x2 x3 mu = some t) : W p l e rm4_ifAlone s m args below meth c H locs 0 0 (vx_MQ below (va_Qi (fun (r9 : Int32) (_ : Unit) => r9 = t.2.1 ∧ t.1 = 0) (fun _ t9 => cB D Y ad t.2.2 t9) (cA ad s.heap.size)) (vx_X (fun (_ : Unit) => ¬ t.1 = 0) (fun E _ t9 => E = xn t.1 ∧ cB D Y ad t.2.2 t9) (cA ad s.heap.size)) args s 3 18 (cA ad s.heap.size)) (F0 m 0 ls []) := by
  obtain ⟨⟨hx, hb, hml, hown, hts⟩, hr, hlk, hK⟩ := id X
  replace hf : (Option.bind (f4_isWithin_0 x1 0 20) (fun t1 => if t1 = 0 then (some (2, 0, mu)) else (Option.bind (f4_isWithin_0 x2 0 9) (fun t3 => if t3 = 0 then (some (2, 0, mu)) else (Option.bind (f4_isWithin_0 x3 0 4) (fun t5 => if t5 = 0 then (some (2, 0, mu)) else (Option.bind (f4_tryAlone_0 x1 x2 mu) (fun t7 => gd 0 8 (if x3 = 0 then (some (0, t7.2 1 (90 + 9 * ((Int32.toNatClampNeg 0)) + 0), t7.2)) else (if x3 = 1 then (some (0, t7.1, t7.2)) else (if x3 = 2 then (some (0, t7.2 1 (90 + 9 * ((Int32.toNatClampNeg 0)) + 6), t7.2)) else (if x3 = 3 then (some (0, t7.2 1 (90 + 9 * ((Int32.toNatClampNeg 0)) + 4), t7.2)) else (some (0, t7.2 1 (90 + 9 * ((Int32.toNatClampNeg 0)) + 8), t7.2)))))))))))))) = some t := hf
  refine lv_iload_n hx hb dX4_ifAlone_0 rfl (lv_at hl 1 rfl) ?_
  refine lv_iconst (v := 0) hx hb dX4_ifAlone_1 (by decide) ?_
  refine lv_bipush (v := 20) hx hb dX4_ifAlone_2 (by decide) ?_
  obtain ⟨t1, ht1, hf⟩ := bd_o hf
  refine k4_isWithin X.1 hl.1 qX4_45 ⟨Nat.le_of_ble_eq_true rfl, Nat.le_of_ble_eq_true rfl⟩ ht1 (Nat.le_of_ble_eq_true rfl) dX4_ifAlone_4 ⟨Nat.le_of_ble_eq_true rfl, Nat.le_of_ble_eq_true rfl⟩ ?_
  refine rq_2 X hl0 hZ hH hl.1 qX4_49 ⟨Nat.le_of_ble_eq_true rfl, Nat.le_of_ble_eq_true rfl⟩ dX4_ifAlone_7 ⟨Nat.le_of_ble_eq_true rfl, Nat.le_of_ble_eq_true rfl⟩ ⟨Nat.le_of_ble_eq_true rfl, Nat.le_of_ble_eq_true rfl⟩ (fun c2 => ?_) (fun c2 => ?_)
  · have hf := it_t c2 hf
    obtain rfl := so_i hf
    exact ⟨rfl, rfl⟩
  have hf := it_f c2 hf
  refine lv_iload_n hx hb dX4_ifAlone_10 rfl (lv_at hl 2 rfl) ?_
  refine lv_iconst (v := 0) hx hb dX4_ifAlone_11 (by decide) ?_
  refine lv_bipush (v := 9) hx hb dX4_ifAlone_12 (by decide) ?_
  obtain ⟨t3, ht3, hf⟩ := bd_o hf
  refine k4_isWithin X.1 hl.1 qX4_45 ⟨Nat.le_of_ble_eq_true rfl, Nat.le_of_ble_eq_true rfl⟩ ht3 (Nat.le_of_ble_eq_true rfl) dX4_ifAlone_14 ⟨Nat.le_of_ble_eq_true rfl, Nat.le_of_ble_eq_true rfl⟩ ?_
  refine rq_2 X hl0 hZ hH hl.1 qX4_49 ⟨Nat.le_of_ble_eq_true rfl, Nat.le_of_ble_eq_true rfl⟩ dX4_ifAlone_17 ⟨Nat.le_of_ble_eq_true rfl, Nat.le_of_ble_eq_true rfl⟩ ⟨Nat.le_of_ble_eq_true rfl, Nat.le_of_ble_eq_true rfl⟩ (fun c4 => ?_) (fun c4 => ?_)
  · have hf := it_t c4 hf
    obtain rfl := so_i hf
    exact ⟨rfl, rfl⟩
  have hf := it_f c4 hf
  refine lv_iload_n hx hb dX4_ifAlone_20 rfl (lv_at hl 3 rfl) ?_
  refine lv_iconst (v := 0) hx hb dX4_ifAlone_21 (by decide) ?_
  refine lv_iconst (v := 4) hx hb dX4_ifAlone_22 (by decide) ?_
  obtain ⟨t5, ht5, hf⟩ := bd_o hf
  refine k4_isWithin X.1 hl.1 qX4_45 ⟨Nat.le_of_ble_eq_true rfl, Nat.le_of_ble_eq_true rfl⟩ ht5 (Nat.le_of_ble_eq_true rfl) dX4_ifAlone_23 ⟨Nat.le_of_ble_eq_true rfl, Nat.le_of_ble_eq_true rfl⟩ ?_
  refine rq_2 X hl0 hZ hH hl.1 qX4_49 ⟨Nat.le_of_ble_eq_true rfl, Nat.le_of_ble_eq_true rfl⟩ dX4_ifAlone_26 ⟨Nat.le_of_ble_eq_true rfl, Nat.le_of_ble_eq_true rfl⟩ ⟨Nat.le_of_ble_eq_true rfl, Nat.le_of_ble_eq_true rfl⟩ (fun c6 => ?_) (fun c6 => ?_)
  · have hf := it_t c6 hf
    obtain rfl := so_i hf
    exact ⟨rfl, rfl⟩
  have hf := it_f c6 hf
  refine lv_aload_n hx hb dX4_ifAlone_29 rfl (lv_at hl 0 rfl) ?_
  refine lv_iload_n hx hb dX4_ifAlone_30 rfl (lv_at hl 1 rfl) ?_
  refine lv_iload_n hx hb dX4_ifAlone_31 rfl (lv_at hl 2 rfl) ?_
  obtain ⟨t7, ht7, hf⟩ := bd_o hf
  refine k4_tryAlone X hI hH hl.1 qX4_181 ⟨Nat.le_of_ble_eq_true rfl, Nat.le_of_ble_eq_true rfl⟩ ht7 (Nat.le_of_ble_eq_true rfl) dX4_ifAlone_32 ⟨Nat.le_of_ble_eq_true rfl, Nat.le_of_ble_eq_true rfl⟩ (fun H locs hH => ?_)
  refine lv_istore (lv' := [(4, .int t7.1), (0, .ref (ad 150)), (1, .int x1), (2, .int x2), (3, .int x3)]) hx hb dX4_ifAlone_35 hl (by decide) rfl (fun ls hl => ?_)
  refine lv_aload_n hx hb dX4_ifAlone_37 rfl (lv_at hl 1 rfl) ?_
  refine cr_gRa X hH.1 (i := 1) (v := .ref (ad (15 * 1))) (by decide) gfX4_16 rfl dX4_ifAlone_38 ?_
  refine cr_gSt X (k := 1) (by omega) rfl hH.1 (i := 4) (v := .ref (ad (15 * 1 + 5))) (by decide) gfX4_156 rfl dX4_ifAlone_41 ?_
  refine lv_iconst (v := 0) hx hb dX4_ifAlone_44 (by decide) ?_
  obtain ⟨hi8, hf⟩ := gd_o hf
  refine cr_cars X (k := 1) (by omega) hH.1 hi8 dX4_ifAlone_45 ?_
  refine lv_astore (lv' := [(5, .ref (ad (15 * 1 + ((Int32.toNatClampNeg 0) + 7)))), (4, .int t7.1), (0, .ref (ad 150)), (1, .int x1), (2, .int x2), (3, .int x3)]) hx hb dX4_ifAlone_46 hl (by decide) rfl (fun ls hl => ?_)
  refine lv_iload_n hx hb dX4_ifAlone_48 rfl (lv_at hl 5 rfl) ?_
  by_cases c9 : x3 = 0
  · have hf := it_t c9 hf
    refine lv_tableIn (off := 31) (tgt := 80) hx hb dX4_ifAlone_49 (by rw [c9]; decide) (by rw [c9]; decide) (by rw [c9]; rfl) (by decide) ?_
    refine lv_aload hx hb dX4_ifAlone_80 (lv_at hl 0 rfl) ?_
    refine cr_gCar X (k := 1) (by omega) rfl (j := (Int32.toNatClampNeg 0)) (vin_lt hi8) hH.1 (i := 0) (v := .int (t7.2 1 (90 + 9 * ((Int32.toNatClampNeg 0)) + 0))) (by decide) gfX4_168 rfl dX4_ifAlone_82 ?_
    obtain rfl := so_i hf
    exact cx_iw X hH rfl rfl (Nat.le_of_ble_eq_true rfl) (Nat.le_of_ble_eq_true rfl) dX4_ifAlone_85
  · have hf := it_f c9 hf
    by_cases c10 : x3 = 1
    · have hf := it_t c10 hf
      refine lv_tableIn (off := 37) (tgt := 86) hx hb dX4_ifAlone_49 (by rw [c10]; decide) (by rw [c10]; decide) (by rw [c10]; rfl) (by decide) ?_
      refine lv_iload hx hb dX4_ifAlone_86 (lv_at hl 1 rfl) ?_
      obtain rfl := so_i hf
      exact cx_iw X hH rfl rfl (Nat.le_of_ble_eq_true rfl) (Nat.le_of_ble_eq_true rfl) dX4_ifAlone_88
    · have hf := it_f c10 hf
      by_cases c11 : x3 = 2
      · have hf := it_t c11 hf
        refine lv_tableIn (off := 40) (tgt := 89) hx hb dX4_ifAlone_49 (by rw [c11]; decide) (by rw [c11]; decide) (by rw [c11]; rfl) (by decide) ?_
        refine lv_aload hx hb dX4_ifAlone_89 (lv_at hl 0 rfl) ?_
        refine cr_gCar X (k := 1) (by omega) rfl (j := (Int32.toNatClampNeg 0)) (vin_lt hi8) hH.1 (i := 6) (v := .int (t7.2 1 (90 + 9 * ((Int32.toNatClampNeg 0)) + 6))) (by decide) gfX4_184 rfl dX4_ifAlone_91 ?_
        obtain rfl := so_i hf
        exact cx_iw X hH rfl rfl (Nat.le_of_ble_eq_true rfl) (Nat.le_of_ble_eq_true rfl) dX4_ifAlone_94
      · have hf := it_f c11 hf
        by_cases c12 : x3 = 3
        · have hf := it_t c12 hf
          refine lv_tableIn (off := 46) (tgt := 95) hx hb dX4_ifAlone_49 (by rw [c12]; decide) (by rw [c12]; decide) (by rw [c12]; rfl) (by decide) ?_
          refine lv_aload hx hb dX4_ifAlone_95 (lv_at hl 0 rfl) ?_
          refine cr_gCar X (k := 1) (by omega) rfl (j := (Int32.toNatClampNeg 0)) (vin_lt hi8) hH.1 (i := 4) (v := .int (t7.2 1 (90 + 9 * ((Int32.toNatClampNeg 0)) + 4))) (by decide) gfX4_185 rfl dX4_ifAlone_97 ?_
          obtain rfl := so_i hf
          exact cx_iw X hH rfl rfl (Nat.le_of_ble_eq_true rfl) (Nat.le_of_ble_eq_true rfl) dX4_ifAlone_100
        · have hf := it_f c12 hf
          have nc9 : ¬ Int32.toInt x3 = 0 := ne_ti c9 (by decide)
          have nc10 : ¬ Int32.toInt x3 = 1 := ne_ti c10 (by decide)
          have nc11 : ¬ Int32.toInt x3 = 2 := ne_ti c11 (by decide)
          have nc12 : ¬ Int32.toInt x3 = 3 := ne_ti c12 (by decide)
          refine lv_tableOut (tgt := 101) hx hb dX4_ifAlone_49 (by omega) (by decide) ?_
          refine lv_aload hx hb dX4_ifAlone_101 (lv_at hl 0 rfl) ?_
          refine cr_gCar X (k := 1) (by omega) rfl (j := (Int32.toNatClampNeg 0)) (vin_lt hi8) hH.1 (i := 8) (v := .int (t7.2 1 (90 + 9 * ((Int32.toNatClampNeg 0)) + 8))) (by decide) gfX4_188 rfl dX4_ifAlone_103 ?_
          obtain rfl := so_i hf
          exact cx_iw X hH rfl rfl (Nat.le_of_ble_eq_true rfl) (Nat.le_of_ble_eq_true rfl) dX4_ifAlone_106
set_option maxRecDepth 100000 in
set_option maxHeartbeats 4000000 in
theorem c4_ifAlone (l : Launch) {D : va_G} {Y : cYt} {ad : Nat → Nat} {mu : Nat → Nat → Int32} (hI : cInj ad) (hl0 : l.stackTraces = false) (sz : Nat) (x1 : Int32) (x2 : Int32) (x3 : Int32) {t : Int32 × Int32 × (Nat → Nat → Int32)} (hf : f4_ifAlone_0 x1 x2 x3 mu = some t) : vx_Met l yX4_ifAlone uX4_ifAlone rm4_ifAlone (va_Pc [.ref (ad 150), .int x1, .int x2, .int x3] (fun U => U.heap.size = sz ∧ zx (cA ad sz) U ∧ cB D Y ad mu U)) (va_Qi (fun (r9 : Int32) (_ : Unit) => r9 = t.2.1 ∧ t.1 = 0) (fun _ t9 => cB D Y ad t.2.2 t9) (cA ad sz)) (vx_X (fun (_ : Unit) => ¬ t.1 = 0) (fun E _ t9 => E = xn t.1 ∧ cB D Y ad t.2.2 t9) (cA ad sz)) 3 18 (cA ad sz) := by
  refine vx_ofW (cc := cX4_ifAlone) (maxL := 6) (ret := (some .int)) (by decide) rfl ?_
  intro p e s m args below meth c s₁ B hml hx0 hv
  obtain ⟨rfl, hsz, hz, hP, hK⟩ := hv
  subst hsz
  have X : cX D Y p s m ([.ref (ad 150), .int x1, .int x2, .int x3] : List Value).toArray meth c cX4_ifAlone 6 RX4 (some .int) := ⟨⟨B.exec, B.bytes, hml, findClass_of_methodNamed B.named, fun w h => atoms_spec (ws := uX4_ifAlone) B.pre w (List.mem_cons_of_mem _ h)⟩, B.returns, B.notSynchronized, hK⟩
  have hl := lv_entry ([.ref (ad 150), .int x1, .int x2, .int x3]) (n := 6) (Nat.le_of_ble_eq_true rfl)
  rw [lg_entry_eq]
  generalize (lg_sl ([.ref (ad 150), .int x1, .int x2, .int x3]) ++ List.replicate (6 - (lg_sl ([.ref (ad 150), .int x1, .int x2, .int x3])).length) Slot.unset).toArray = ls at hl ⊢
  have hl : lv_has ls 6 [(0, .ref (ad 150)), (1, .int x1), (2, .int x2), (3, .int x3)] := hl
  exact w4_ifAlone_0 X hI hl0 ⟨List.eq_nil_iff_forall_not_mem.mpr (fun x h => hx0 x h), hz⟩ ⟨hP, va_S.rf⟩ (lv_sub hl [0, 1, 2, 3] rfl) hf
/-! OreRailway.leastBrake(I)I -/
def rm4_leastBrake : Room := { frames := 7, cells := 1, slots := 6, locals := 116 }
def f4_leastBrake_53 (K12 : Int32 → Int32 → (Nat → Nat → Int32) → (Option (Int32 × Int32 × (Nat → Nat → Int32)))) (x1 : Int32) (x2 : Int32) (mu : Nat → Nat → Int32) : Option (Int32 × Int32 × (Nat → Nat → Int32)) := K12 x1 (x2 + 1) mu
set_option maxRecDepth 100000 in
set_option maxHeartbeats 4000000 in
theorem w4_leastBrake_53 {p : Program} {l : Launch} {e : Env} {s : State} {m : MethodId} {args : Array Value} {below : List Frame} {meth : Method} {c : Code} {D : va_G} {Y : cYt} {ad : Nat → Nat} {mu : Nat → Nat → Int32} (X : cX D Y p s m args meth c cX4_leastBrake 4 RX4 (some .int)) (hI : cInj ad) (hl0 : l.stackTraces = false) (hZ : c.exceptionTable.toList = [] ∧ zx (cA ad s.heap.size) s)  {x1 : Int32} {x2 : Int32} {t : Int32 × Int32 × (Nat → Nat → Int32)} {K12 : Int32 → Int32 → (Nat → Nat → Int32) → (Option (Int32 × Int32 × (Nat → Nat → Int32)))} (hK12 : ∀ (x1 : Int32) (x2 : Int32) (mu : Nat → Nat → Int32) (H : Heap) (locs : List Loc), cH D Y ad mu s H locs → ∀ (ls : Array Slot), lv_has ls 4 [(0, .ref (ad 150)), (1, .int x1), (2, .int x2)] → K12 x1 x2 mu = some t → W p l e rm4_leastBrake s m args below meth c H locs 1 6 (vx_MQ below (va_Qi (fun (r9 : Int32) (_ : Unit) => r9 = t.2.1 ∧ t.1 = 0) (fun _ t9 => cB D Y ad t.2.2 t9) (cA ad s.heap.size)) (vx_X (fun (_ : Unit) => ¬ t.1 = 0) (fun E _ t9 => E = xn t.1 ∧ cB D Y ad t.2.2 t9) (cA ad s.heap.size)) args s 1 6 (cA ad s.heap.size)) (F0 m 12 ls []))  {H : Heap} {locs : List Loc} (hH : cH D Y ad mu s H locs) {ls : Array Slot} (hl : lv_has ls 4 [(0, .ref (ad 150)), (1, .int x1), (2, .int x2)]) (hf : f4_leastBrake_53 K12 x1 x2 mu = some t) : W p l e rm4_leastBrake s m args below meth c H locs 1 6 (vx_MQ below (va_Qi (fun (r9 : Int32) (_ : Unit) => r9 = t.2.1 ∧ t.1 = 0) (fun _ t9 => cB D Y ad t.2.2 t9) (cA ad s.heap.size)) (vx_X (fun (_ : Unit) => ¬ t.1 = 0) (fun E _ t9 => E = xn t.1 ∧ cB D Y ad t.2.2 t9) (cA ad s.heap.size)) args s 1 6 (cA ad s.heap.size)) (F0 m 53 ls []) := by
  obtain ⟨⟨hx, hb, hml, hown, hts⟩, hr, hlk, hK⟩ := id X
  replace hf : (K12 x1 (x2 + 1) mu) = some t := hf
  refine lv_iinc (v := x2 + 1) (lv' := [(2, .int (x2 + 1)), (0, .ref (ad 150)), (1, .int x1)]) hx hb dX4_leastBrake_53 hl (k := 2) rfl rfl (by decide) rfl (fun ls hl => ?_)
  refine lv_goto (tgt := 12) hx hb dX4_leastBrake_56 (by decide) ?_
  exact hK12 _ _ _ _ _ hH _ (lv_sub hl [1, 2, 0] rfl) hf
def f4_leastBrake_12 : Nat → Int32 → Int32 → (Nat → Nat → Int32) → Option (Int32 × Int32 × (Nat → Nat → Int32))
  | 0, _, _, _ => none
  | n + 1, x1, x2, mu => if 9 < x2 then (some (0, (-1), mu)) else (Option.bind (f4_tryAlone_0 x1 x2 mu) (fun t2 => gd 0 8 (if (t2.2 1 (90 + 9 * ((Int32.toNatClampNeg 0)) + 0)) = 2 then (if (t2.2 1 (90 + 9 * ((Int32.toNatClampNeg 0)) + 6)) = x1 then (some (0, x2, t2.2)) else (f4_leastBrake_53 (f4_leastBrake_12 n) x1 x2 t2.2)) else (f4_leastBrake_53 (f4_leastBrake_12 n) x1 x2 t2.2))))
set_option maxRecDepth 100000 in
set_option maxHeartbeats 4000000 in
theorem w4_leastBrake_12 {p : Program} {l : Launch} {e : Env} {s : State} {m : MethodId} {args : Array Value} {below : List Frame} {meth : Method} {c : Code} {D : va_G} {Y : cYt} {ad : Nat → Nat} (X : cX D Y p s m args meth c cX4_leastBrake 4 RX4 (some .int)) (hI : cInj ad) (hl0 : l.stackTraces = false) (hZ : c.exceptionTable.toList = [] ∧ zx (cA ad s.heap.size) s)  {t : Int32 × Int32 × (Nat → Nat → Int32)} :
    ∀ (n : Nat) (x1 : Int32) (x2 : Int32) (mu : Nat → Nat → Int32) (H : Heap) (locs : List Loc), cH D Y ad mu s H locs → ∀ (ls : Array Slot), lv_has ls 4 [(0, .ref (ad 150)), (1, .int x1), (2, .int x2)] → f4_leastBrake_12 n x1 x2 mu = some t → W p l e rm4_leastBrake s m args below meth c H locs 1 6 (vx_MQ below (va_Qi (fun (r9 : Int32) (_ : Unit) => r9 = t.2.1 ∧ t.1 = 0) (fun _ t9 => cB D Y ad t.2.2 t9) (cA ad s.heap.size)) (vx_X (fun (_ : Unit) => ¬ t.1 = 0) (fun E _ t9 => E = xn t.1 ∧ cB D Y ad t.2.2 t9) (cA ad s.heap.size)) args s 1 6 (cA ad s.heap.size)) (F0 m 12 ls []) := by
  obtain ⟨⟨hx, hb, hml, hown, hts⟩, hr, hlk, hK⟩ := id X
  intro n
  induction n with
  | zero =>
    intro x1 x2 mu H locs hH ls hl hf
    cases hf
  | succ n ih =>
    intro x1 x2 mu H locs hH ls hl hf
    replace hf : (if 9 < x2 then (some (0, (-1), mu)) else (Option.bind (f4_tryAlone_0 x1 x2 mu) (fun t2 => gd 0 8 (if (t2.2 1 (90 + 9 * ((Int32.toNatClampNeg 0)) + 0)) = 2 then (if (t2.2 1 (90 + 9 * ((Int32.toNatClampNeg 0)) + 6)) = x1 then (some (0, x2, t2.2)) else (f4_leastBrake_53 (f4_leastBrake_12 n) x1 x2 t2.2)) else (f4_leastBrake_53 (f4_leastBrake_12 n) x1 x2 t2.2))))) = some t := hf
    refine lv_iload_n hx hb dX4_leastBrake_12 rfl (lv_at hl 2 rfl) ?_
    refine lv_bipush (v := 9) hx hb dX4_leastBrake_13 (by decide) ?_
    refine lv_icmp_gt (tgt := 59) hx hb dX4_leastBrake_15 (by decide) (fun c1 => ?_) (fun c1 => ?_)
    · have hf := it_t c1 hf
      refine lv_iconst (v := (-1)) hx hb dX4_leastBrake_59 (by decide) ?_
      obtain rfl := so_i hf
      exact cx_iw X hH rfl rfl (Nat.le_of_ble_eq_true rfl) (Nat.le_of_ble_eq_true rfl) dX4_leastBrake_60
    · have hf := it_f c1 hf
      refine lv_aload_n hx hb dX4_leastBrake_18 rfl (lv_at hl 0 rfl) ?_
      refine lv_iload_n hx hb dX4_leastBrake_19 rfl (lv_at hl 1 rfl) ?_
      refine lv_iload_n hx hb dX4_leastBrake_20 rfl (lv_at hl 2 rfl) ?_
      obtain ⟨t2, ht2, hf⟩ := bd_o hf
      refine k4_tryAlone X hI hH hl.1 qX4_181 ⟨Nat.le_of_ble_eq_true rfl, Nat.le_of_ble_eq_true rfl⟩ ht2 (Nat.le_of_ble_eq_true rfl) dX4_leastBrake_21 ⟨Nat.le_of_ble_eq_true rfl, Nat.le_of_ble_eq_true rfl⟩ (fun H locs hH => ?_)
      refine lv_pop hx hb dX4_leastBrake_24 rfl ?_
      refine lv_aload_n hx hb dX4_leastBrake_25 rfl (lv_at hl 0 rfl) ?_
      refine cr_gRa X hH.1 (i := 1) (v := .ref (ad (15 * 1))) (by decide) gfX4_16 rfl dX4_leastBrake_26 ?_
      refine cr_gSt X (k := 1) (by omega) rfl hH.1 (i := 4) (v := .ref (ad (15 * 1 + 5))) (by decide) gfX4_156 rfl dX4_leastBrake_29 ?_
      refine lv_iconst (v := 0) hx hb dX4_leastBrake_32 (by decide) ?_
      obtain ⟨hi3, hf⟩ := gd_o hf
      refine cr_cars X (k := 1) (by omega) hH.1 hi3 dX4_leastBrake_33 ?_
      refine lv_astore_n (lv' := [(3, .ref (ad (15 * 1 + ((Int32.toNatClampNeg 0) + 7)))), (0, .ref (ad 150)), (1, .int x1), (2, .int x2)]) hx hb dX4_leastBrake_34 rfl hl (by decide) rfl (fun ls hl => ?_)
      refine lv_aload_n hx hb dX4_leastBrake_35 rfl (lv_at hl 0 rfl) ?_
      refine cr_gCar X (k := 1) (by omega) rfl (j := (Int32.toNatClampNeg 0)) (vin_lt hi3) hH.1 (i := 0) (v := .int (t2.2 1 (90 + 9 * ((Int32.toNatClampNeg 0)) + 0))) (by decide) gfX4_168 rfl dX4_leastBrake_36 ?_
      refine lv_iconst (v := 2) hx hb dX4_leastBrake_39 (by decide) ?_
      refine lv_icmp_ne (tgt := 53) hx hb dX4_leastBrake_40 (by decide) (fun c4 => ?_) (fun c4 => ?_)
      · have hf := it_f c4 hf
        exact w4_leastBrake_53 X hI hl0 hZ (K12 := (f4_leastBrake_12 n)) ih hH (lv_sub hl [1, 2, 3] rfl) hf
      · have hf := it_t c4 hf
        refine lv_aload_n hx hb dX4_leastBrake_43 rfl (lv_at hl 0 rfl) ?_
        refine cr_gCar X (k := 1) (by omega) rfl (j := (Int32.toNatClampNeg 0)) (vin_lt hi3) hH.1 (i := 6) (v := .int (t2.2 1 (90 + 9 * ((Int32.toNatClampNeg 0)) + 6))) (by decide) gfX4_184 rfl dX4_leastBrake_44 ?_
        refine lv_iload_n hx hb dX4_leastBrake_47 rfl (lv_at hl 2 rfl) ?_
        refine lv_icmp_ne (tgt := 53) hx hb dX4_leastBrake_48 (by decide) (fun c5 => ?_) (fun c5 => ?_)
        · have hf := it_f c5 hf
          exact w4_leastBrake_53 X hI hl0 hZ (K12 := (f4_leastBrake_12 n)) ih hH (lv_sub hl [1, 2, 3] rfl) hf
        · have hf := it_t c5 hf
          refine lv_iload_n hx hb dX4_leastBrake_51 rfl (lv_at hl 3 rfl) ?_
          obtain rfl := so_i hf
          exact cx_iw X hH rfl rfl (Nat.le_of_ble_eq_true rfl) (Nat.le_of_ble_eq_true rfl) dX4_leastBrake_52
def f4_leastBrake_0 (x1 : Int32) (mu : Nat → Nat → Int32) : Option (Int32 × Int32 × (Nat → Nat → Int32)) := Option.bind (f4_isWithin_0 x1 0 20) (fun t1 => if t1 = 0 then (some (2, 0, mu)) else (f4_leastBrake_12 fu x1 0 mu))
set_option maxRecDepth 100000 in
set_option maxHeartbeats 4000000 in
theorem w4_leastBrake_0 {p : Program} {l : Launch} {e : Env} {s : State} {m : MethodId} {args : Array Value} {below : List Frame} {meth : Method} {c : Code} {D : va_G} {Y : cYt} {ad : Nat → Nat} {mu : Nat → Nat → Int32} (X : cX D Y p s m args meth c cX4_leastBrake 4 RX4 (some .int)) (hI : cInj ad) (hl0 : l.stackTraces = false) (hZ : c.exceptionTable.toList = [] ∧ zx (cA ad s.heap.size) s)  {x1 : Int32} {t : Int32 × Int32 × (Nat → Nat → Int32)}  {H : Heap} {locs : List Loc} (hH : cH D Y ad mu s H locs) {ls : Array Slot} (hl : lv_has ls 4 [(0, .ref (ad 150)), (1, .int x1)]) (hf : f4_leastBrake_0 x1 mu = some t) : W p l e rm4_leastBrake s m args below meth c H locs 0 0 (vx_MQ below (va_Qi (fun (r9 : Int32) (_ : Unit) => r9 = t.2.1 ∧ t.1 = 0) (fun _ t9 => cB D Y ad t.2.2 t9) (cA ad s.heap.size)) (vx_X (fun (_ : Unit) => ¬ t.1 = 0) (fun E _ t9 => E = xn t.1 ∧ cB D Y ad t.2.2 t9) (cA ad s.heap.size)) args s 1 6 (cA ad s.heap.size)) (F0 m 0 ls []) := by
  obtain ⟨⟨hx, hb, hml, hown, hts⟩, hr, hlk, hK⟩ := id X
  replace hf : (Option.bind (f4_isWithin_0 x1 0 20) (fun t1 => if t1 = 0 then (some (2, 0, mu)) else (f4_leastBrake_12 fu x1 0 mu))) = some t := hf
  refine lv_iload_n hx hb dX4_leastBrake_0 rfl (lv_at hl 1 rfl) ?_
  refine lv_iconst (v := 0) hx hb dX4_leastBrake_1 (by decide) ?_
  refine lv_bipush (v := 20) hx hb dX4_leastBrake_2 (by decide) ?_
  obtain ⟨t1, ht1, hf⟩ := bd_o hf
  refine k4_isWithin X.1 hl.1 qX4_45 ⟨Nat.le_of_ble_eq_true rfl, Nat.le_of_ble_eq_true rfl⟩ ht1 (Nat.le_of_ble_eq_true rfl) dX4_leastBrake_4 ⟨Nat.le_of_ble_eq_true rfl, Nat.le_of_ble_eq_true rfl⟩ ?_
  refine rq_2 X hl0 hZ hH hl.1 qX4_49 ⟨Nat.le_of_ble_eq_true rfl, Nat.le_of_ble_eq_true rfl⟩ dX4_leastBrake_7 ⟨Nat.le_of_ble_eq_true rfl, Nat.le_of_ble_eq_true rfl⟩ ⟨Nat.le_of_ble_eq_true rfl, Nat.le_of_ble_eq_true rfl⟩ (fun c2 => ?_) (fun c2 => ?_)
  · have hf := it_t c2 hf
    obtain rfl := so_i hf
    exact ⟨rfl, rfl⟩
  have hf := it_f c2 hf
  refine lv_iconst (v := 0) hx hb dX4_leastBrake_10 (by decide) ?_
  refine lv_istore_n (lv' := [(2, .int 0), (0, .ref (ad 150)), (1, .int x1)]) hx hb dX4_leastBrake_11 rfl hl (by decide) rfl (fun ls hl => ?_)
  exact w4_leastBrake_12 X hI hl0 hZ _ _ _ _ _ _ hH _ (lv_sub hl [1, 2, 0] rfl) hf
set_option maxRecDepth 100000 in
set_option maxHeartbeats 4000000 in
theorem c4_leastBrake (l : Launch) {D : va_G} {Y : cYt} {ad : Nat → Nat} {mu : Nat → Nat → Int32} (hI : cInj ad) (hl0 : l.stackTraces = false) (sz : Nat) (x1 : Int32) {t : Int32 × Int32 × (Nat → Nat → Int32)} (hf : f4_leastBrake_0 x1 mu = some t) : vx_Met l yX4_leastBrake uX4_leastBrake rm4_leastBrake (va_Pc [.ref (ad 150), .int x1] (fun U => U.heap.size = sz ∧ zx (cA ad sz) U ∧ cB D Y ad mu U)) (va_Qi (fun (r9 : Int32) (_ : Unit) => r9 = t.2.1 ∧ t.1 = 0) (fun _ t9 => cB D Y ad t.2.2 t9) (cA ad sz)) (vx_X (fun (_ : Unit) => ¬ t.1 = 0) (fun E _ t9 => E = xn t.1 ∧ cB D Y ad t.2.2 t9) (cA ad sz)) 1 6 (cA ad sz) := by
  refine vx_ofW (cc := cX4_leastBrake) (maxL := 4) (ret := (some .int)) (by decide) rfl ?_
  intro p e s m args below meth c s₁ B hml hx0 hv
  obtain ⟨rfl, hsz, hz, hP, hK⟩ := hv
  subst hsz
  have X : cX D Y p s m ([.ref (ad 150), .int x1] : List Value).toArray meth c cX4_leastBrake 4 RX4 (some .int) := ⟨⟨B.exec, B.bytes, hml, findClass_of_methodNamed B.named, fun w h => atoms_spec (ws := uX4_leastBrake) B.pre w (List.mem_cons_of_mem _ h)⟩, B.returns, B.notSynchronized, hK⟩
  have hl := lv_entry ([.ref (ad 150), .int x1]) (n := 4) (Nat.le_of_ble_eq_true rfl)
  rw [lg_entry_eq]
  generalize (lg_sl ([.ref (ad 150), .int x1]) ++ List.replicate (4 - (lg_sl ([.ref (ad 150), .int x1])).length) Slot.unset).toArray = ls at hl ⊢
  have hl : lv_has ls 4 [(0, .ref (ad 150)), (1, .int x1)] := hl
  exact w4_leastBrake_0 X hI hl0 ⟨List.eq_nil_iff_forall_not_mem.mpr (fun x h => hx0 x h), hz⟩ ⟨hP, va_S.rf⟩ (lv_sub hl [0, 1] rfl) hf
/-! OreRailway.ifRun(II)I -/
def rm4_ifRun : Room := { frames := 7, cells := 2, slots := 12, locals := 115 }
def f4_ifRun_0 (x1 : Int32) (x2 : Int32) (mu : Nat → Nat → Int32) : Option (Int32 × Int32 × (Nat → Nat → Int32)) := Option.bind (f4_isWithin_0 x1 1 200) (fun t1 => if t1 = 0 then (some (2, 0, mu)) else (Option.bind (f4_isWithin_0 x2 0 4) (fun t3 => if t3 = 0 then (some (2, 0, mu)) else (Option.bind (f3_copyFrom_0 (mu 0) (mu 1)) (fun t5 => Option.bind (f3_passTicks_0 x1 ((s1 mu 1 t5) 1) ((s1 mu 1 t5) (1 + 20))) (fun t6 => if x2 = 0 then (some (0, ((s1 (s1 (s1 mu 1 t5) (1 + 20) t6.2) 1 t6.1) 1 165) - ((s1 (s1 (s1 mu 1 t5) (1 + 20) t6.2) 1 t6.1) 0 165), s1 (s1 (s1 mu 1 t5) (1 + 20) t6.2) 1 t6.1)) else (if x2 = 1 then (some (0, ((s1 (s1 (s1 mu 1 t5) (1 + 20) t6.2) 1 t6.1) 1 166) - ((s1 (s1 (s1 mu 1 t5) (1 + 20) t6.2) 1 t6.1) 0 166), s1 (s1 (s1 mu 1 t5) (1 + 20) t6.2) 1 t6.1)) else (if x2 = 2 then (Option.bind (f3_carsInState_0 ((s1 (s1 (s1 mu 1 t5) (1 + 20) t6.2) 1 t6.1) 1) 3) (fun t10 => some (0, t10, s1 (s1 (s1 mu 1 t5) (1 + 20) t6.2) 1 t6.1))) else (if x2 = 3 then (Option.bind (f3_bumps_0 ((s1 (s1 (s1 mu 1 t5) (1 + 20) t6.2) 1 t6.1) 1)) (fun t12 => Option.bind (f3_bumps_0 ((s1 (s1 (s1 mu 1 t5) (1 + 20) t6.2) 1 t6.1) 0)) (fun t13 => some (0, t12 - t13, s1 (s1 (s1 mu 1 t5) (1 + 20) t6.2) 1 t6.1)))) else (Option.bind (f3_carsInState_0 ((s1 (s1 (s1 mu 1 t5) (1 + 20) t6.2) 1 t6.1) 1) 1) (fun t14 => some (0, t14, s1 (s1 (s1 mu 1 t5) (1 + 20) t6.2) 1 t6.1))))))))))))
set_option maxRecDepth 100000 in
set_option maxHeartbeats 4000000 in
theorem w4_ifRun_0 {p : Program} {l : Launch} {e : Env} {s : State} {m : MethodId} {args : Array Value} {below : List Frame} {meth : Method} {c : Code} {D : va_G} {Y : cYt} {ad : Nat → Nat} {mu : Nat → Nat → Int32} (X : cX D Y p s m args meth c cX4_ifRun 3 RX4 (some .int)) (hI : cInj ad) (hl0 : l.stackTraces = false) (hZ : c.exceptionTable.toList = [] ∧ zx (cA ad s.heap.size) s)  {x1 : Int32} {x2 : Int32} {t : Int32 × Int32 × (Nat → Nat → Int32)}  {H : Heap} {locs : List Loc} (hH : cH D Y ad mu s H locs) {ls : Array Slot} (hl : lv_has ls 3 [(0, .ref (ad 150)), (1, .int x1), (2, .int x2)]) (hf : f4_ifRun_0 x1 x2 mu = some t) : W p l e rm4_ifRun s m args below meth c H locs 0 0 (vx_MQ below (va_Qi (fun (r9 : Int32) (_ : Unit) => r9 = t.2.1 ∧ t.1 = 0) (fun _ t9 => cB D Y ad t.2.2 t9) (cA ad s.heap.size)) (vx_X (fun (_ : Unit) => ¬ t.1 = 0) (fun E _ t9 => E = xn t.1 ∧ cB D Y ad t.2.2 t9) (cA ad s.heap.size)) args s 2 12 (cA ad s.heap.size)) (F0 m 0 ls []) := by
  obtain ⟨⟨hx, hb, hml, hown, hts⟩, hr, hlk, hK⟩ := id X
  replace hf : (Option.bind (f4_isWithin_0 x1 1 200) (fun t1 => if t1 = 0 then (some (2, 0, mu)) else (Option.bind (f4_isWithin_0 x2 0 4) (fun t3 => if t3 = 0 then (some (2, 0, mu)) else (Option.bind (f3_copyFrom_0 (mu 0) (mu 1)) (fun t5 => Option.bind (f3_passTicks_0 x1 ((s1 mu 1 t5) 1) ((s1 mu 1 t5) (1 + 20))) (fun t6 => if x2 = 0 then (some (0, ((s1 (s1 (s1 mu 1 t5) (1 + 20) t6.2) 1 t6.1) 1 165) - ((s1 (s1 (s1 mu 1 t5) (1 + 20) t6.2) 1 t6.1) 0 165), s1 (s1 (s1 mu 1 t5) (1 + 20) t6.2) 1 t6.1)) else (if x2 = 1 then (some (0, ((s1 (s1 (s1 mu 1 t5) (1 + 20) t6.2) 1 t6.1) 1 166) - ((s1 (s1 (s1 mu 1 t5) (1 + 20) t6.2) 1 t6.1) 0 166), s1 (s1 (s1 mu 1 t5) (1 + 20) t6.2) 1 t6.1)) else (if x2 = 2 then (Option.bind (f3_carsInState_0 ((s1 (s1 (s1 mu 1 t5) (1 + 20) t6.2) 1 t6.1) 1) 3) (fun t10 => some (0, t10, s1 (s1 (s1 mu 1 t5) (1 + 20) t6.2) 1 t6.1))) else (if x2 = 3 then (Option.bind (f3_bumps_0 ((s1 (s1 (s1 mu 1 t5) (1 + 20) t6.2) 1 t6.1) 1)) (fun t12 => Option.bind (f3_bumps_0 ((s1 (s1 (s1 mu 1 t5) (1 + 20) t6.2) 1 t6.1) 0)) (fun t13 => some (0, t12 - t13, s1 (s1 (s1 mu 1 t5) (1 + 20) t6.2) 1 t6.1)))) else (Option.bind (f3_carsInState_0 ((s1 (s1 (s1 mu 1 t5) (1 + 20) t6.2) 1 t6.1) 1) 1) (fun t14 => some (0, t14, s1 (s1 (s1 mu 1 t5) (1 + 20) t6.2) 1 t6.1))))))))))))) = some t := hf
  refine lv_iload_n hx hb dX4_ifRun_0 rfl (lv_at hl 1 rfl) ?_
  refine lv_iconst (v := 1) hx hb dX4_ifRun_1 (by decide) ?_
  refine lv_sipush (v := 200) hx hb dX4_ifRun_2 (by decide) ?_
  obtain ⟨t1, ht1, hf⟩ := bd_o hf
  refine k4_isWithin X.1 hl.1 qX4_45 ⟨Nat.le_of_ble_eq_true rfl, Nat.le_of_ble_eq_true rfl⟩ ht1 (Nat.le_of_ble_eq_true rfl) dX4_ifRun_5 ⟨Nat.le_of_ble_eq_true rfl, Nat.le_of_ble_eq_true rfl⟩ ?_
  refine rq_2 X hl0 hZ hH hl.1 qX4_49 ⟨Nat.le_of_ble_eq_true rfl, Nat.le_of_ble_eq_true rfl⟩ dX4_ifRun_8 ⟨Nat.le_of_ble_eq_true rfl, Nat.le_of_ble_eq_true rfl⟩ ⟨Nat.le_of_ble_eq_true rfl, Nat.le_of_ble_eq_true rfl⟩ (fun c2 => ?_) (fun c2 => ?_)
  · have hf := it_t c2 hf
    obtain rfl := so_i hf
    exact ⟨rfl, rfl⟩
  have hf := it_f c2 hf
  refine lv_iload_n hx hb dX4_ifRun_11 rfl (lv_at hl 2 rfl) ?_
  refine lv_iconst (v := 0) hx hb dX4_ifRun_12 (by decide) ?_
  refine lv_iconst (v := 4) hx hb dX4_ifRun_13 (by decide) ?_
  obtain ⟨t3, ht3, hf⟩ := bd_o hf
  refine k4_isWithin X.1 hl.1 qX4_45 ⟨Nat.le_of_ble_eq_true rfl, Nat.le_of_ble_eq_true rfl⟩ ht3 (Nat.le_of_ble_eq_true rfl) dX4_ifRun_14 ⟨Nat.le_of_ble_eq_true rfl, Nat.le_of_ble_eq_true rfl⟩ ?_
  refine rq_2 X hl0 hZ hH hl.1 qX4_49 ⟨Nat.le_of_ble_eq_true rfl, Nat.le_of_ble_eq_true rfl⟩ dX4_ifRun_17 ⟨Nat.le_of_ble_eq_true rfl, Nat.le_of_ble_eq_true rfl⟩ ⟨Nat.le_of_ble_eq_true rfl, Nat.le_of_ble_eq_true rfl⟩ (fun c4 => ?_) (fun c4 => ?_)
  · have hf := it_t c4 hf
    obtain rfl := so_i hf
    exact ⟨rfl, rfl⟩
  have hf := it_f c4 hf
  refine lv_aload_n hx hb dX4_ifRun_20 rfl (lv_at hl 0 rfl) ?_
  refine cr_gRa X hH.1 (i := 1) (v := .ref (ad (15 * 1))) (by decide) gfX4_16 rfl dX4_ifRun_21 ?_
  refine lv_aload_n hx hb dX4_ifRun_24 rfl (lv_at hl 0 rfl) ?_
  refine cr_gRa X hH.1 (i := 0) (v := .ref (ad (15 * 0))) (by decide) gfX4_10 rfl dX4_ifRun_25 ?_
  obtain ⟨t5, ht5, hf⟩ := bd_o hf
  refine km3_copyFrom X hI (k := 1) (by omega) (k2 := 0) (by omega) (by omega) hH hl.1 qX4_144 ⟨Nat.le_of_ble_eq_true rfl, Nat.le_of_ble_eq_true rfl⟩ ht5 (Nat.le_of_ble_eq_true rfl) dX4_ifRun_28 ⟨Nat.le_of_ble_eq_true rfl, Nat.le_of_ble_eq_true rfl⟩ (fun H locs hH => ?_)
  refine lv_aload_n hx hb dX4_ifRun_31 rfl (lv_at hl 0 rfl) ?_
  refine cr_gRa X hH.1 (i := 1) (v := .ref (ad (15 * 1))) (by decide) gfX4_16 rfl dX4_ifRun_32 ?_
  refine lv_iload_n hx hb dX4_ifRun_35 rfl (lv_at hl 1 rfl) ?_
  obtain ⟨t6, ht6, hf⟩ := bd_o hf
  refine km3_passTicks X hI (k := 1) (by omega) hH hl.1 qX4_114 ⟨Nat.le_of_ble_eq_true rfl, Nat.le_of_ble_eq_true rfl⟩ ht6 (Nat.le_of_ble_eq_true rfl) dX4_ifRun_36 ⟨Nat.le_of_ble_eq_true rfl, Nat.le_of_ble_eq_true rfl⟩ (fun H locs hH => ?_)
  refine lv_iload_n hx hb dX4_ifRun_39 rfl (lv_at hl 2 rfl) ?_
  by_cases c7 : x2 = 0
  · have hf := it_t c7 hf
    refine lv_tableIn (off := 32) (tgt := 72) hx hb dX4_ifRun_40 (by rw [c7]; decide) (by rw [c7]; decide) (by rw [c7]; rfl) (by decide) ?_
    refine lv_aload_n hx hb dX4_ifRun_72 rfl (lv_at hl 0 rfl) ?_
    refine cr_gRa X hH.1 (i := 1) (v := .ref (ad (15 * 1))) (by decide) gfX4_16 rfl dX4_ifRun_73 ?_
    refine cr_gSt X (k := 1) (by omega) rfl hH.1 (i := 9) (v := .int ((s1 (s1 (s1 mu 1 t5) (1 + 20) t6.2) 1 t6.1) 1 165)) (by decide) gfX4_111 rfl dX4_ifRun_76 ?_
    refine lv_aload_n hx hb dX4_ifRun_79 rfl (lv_at hl 0 rfl) ?_
    refine cr_gRa X hH.1 (i := 0) (v := .ref (ad (15 * 0))) (by decide) gfX4_10 rfl dX4_ifRun_80 ?_
    refine cr_gSt X (k := 0) (by omega) rfl hH.1 (i := 9) (v := .int ((s1 (s1 (s1 mu 1 t5) (1 + 20) t6.2) 1 t6.1) 0 165)) (by decide) gfX4_111 rfl dX4_ifRun_83 ?_
    refine lv_isub hx hb dX4_ifRun_86 ?_
    obtain rfl := so_i hf
    exact cx_iw X hH rfl rfl (Nat.le_of_ble_eq_true rfl) (Nat.le_of_ble_eq_true rfl) dX4_ifRun_87
  · have hf := it_f c7 hf
    by_cases c8 : x2 = 1
    · have hf := it_t c8 hf
      refine lv_tableIn (off := 48) (tgt := 88) hx hb dX4_ifRun_40 (by rw [c8]; decide) (by rw [c8]; decide) (by rw [c8]; rfl) (by decide) ?_
      refine lv_aload_n hx hb dX4_ifRun_88 rfl (lv_at hl 0 rfl) ?_
      refine cr_gRa X hH.1 (i := 1) (v := .ref (ad (15 * 1))) (by decide) gfX4_16 rfl dX4_ifRun_89 ?_
      refine cr_gSt X (k := 1) (by omega) rfl hH.1 (i := 10) (v := .int ((s1 (s1 (s1 mu 1 t5) (1 + 20) t6.2) 1 t6.1) 1 166)) (by decide) gfX4_191 rfl dX4_ifRun_92 ?_
      refine lv_aload_n hx hb dX4_ifRun_95 rfl (lv_at hl 0 rfl) ?_
      refine cr_gRa X hH.1 (i := 0) (v := .ref (ad (15 * 0))) (by decide) gfX4_10 rfl dX4_ifRun_96 ?_
      refine cr_gSt X (k := 0) (by omega) rfl hH.1 (i := 10) (v := .int ((s1 (s1 (s1 mu 1 t5) (1 + 20) t6.2) 1 t6.1) 0 166)) (by decide) gfX4_191 rfl dX4_ifRun_99 ?_
      refine lv_isub hx hb dX4_ifRun_102 ?_
      obtain rfl := so_i hf
      exact cx_iw X hH rfl rfl (Nat.le_of_ble_eq_true rfl) (Nat.le_of_ble_eq_true rfl) dX4_ifRun_103
    · have hf := it_f c8 hf
      by_cases c9 : x2 = 2
      · have hf := it_t c9 hf
        refine lv_tableIn (off := 64) (tgt := 104) hx hb dX4_ifRun_40 (by rw [c9]; decide) (by rw [c9]; decide) (by rw [c9]; rfl) (by decide) ?_
        refine lv_aload_n hx hb dX4_ifRun_104 rfl (lv_at hl 0 rfl) ?_
        refine cr_gRa X hH.1 (i := 1) (v := .ref (ad (15 * 1))) (by decide) gfX4_16 rfl dX4_ifRun_105 ?_
        refine lv_iconst (v := 3) hx hb dX4_ifRun_108 (by decide) ?_
        obtain ⟨t10, ht10, hf⟩ := bd_o hf
        refine k3_carsInState X (k := 1) (by omega) rfl hH.1 hl.1 qX4_165 ⟨Nat.le_of_ble_eq_true rfl, Nat.le_of_ble_eq_true rfl⟩ ht10 (Nat.le_of_ble_eq_true rfl) dX4_ifRun_109 ⟨Nat.le_of_ble_eq_true rfl, Nat.le_of_ble_eq_true rfl⟩ ?_
        obtain rfl := so_i hf
        exact cx_iw X hH rfl rfl (Nat.le_of_ble_eq_true rfl) (Nat.le_of_ble_eq_true rfl) dX4_ifRun_112
      · have hf := it_f c9 hf
        by_cases c11 : x2 = 3
        · have hf := it_t c11 hf
          refine lv_tableIn (off := 73) (tgt := 113) hx hb dX4_ifRun_40 (by rw [c11]; decide) (by rw [c11]; decide) (by rw [c11]; rfl) (by decide) ?_
          refine lv_aload_n hx hb dX4_ifRun_113 rfl (lv_at hl 0 rfl) ?_
          refine cr_gRa X hH.1 (i := 1) (v := .ref (ad (15 * 1))) (by decide) gfX4_16 rfl dX4_ifRun_114 ?_
          obtain ⟨t12, ht12, hf⟩ := bd_o hf
          refine k3_bumps X (k := 1) (by omega) rfl hH.1 hl.1 qX4_194 ⟨Nat.le_of_ble_eq_true rfl, Nat.le_of_ble_eq_true rfl⟩ ht12 (Nat.le_of_ble_eq_true rfl) dX4_ifRun_117 ⟨Nat.le_of_ble_eq_true rfl, Nat.le_of_ble_eq_true rfl⟩ ?_
          refine lv_aload_n hx hb dX4_ifRun_120 rfl (lv_at hl 0 rfl) ?_
          refine cr_gRa X hH.1 (i := 0) (v := .ref (ad (15 * 0))) (by decide) gfX4_10 rfl dX4_ifRun_121 ?_
          obtain ⟨t13, ht13, hf⟩ := bd_o hf
          refine k3_bumps X (k := 0) (by omega) rfl hH.1 hl.1 qX4_194 ⟨Nat.le_of_ble_eq_true rfl, Nat.le_of_ble_eq_true rfl⟩ ht13 (Nat.le_of_ble_eq_true rfl) dX4_ifRun_124 ⟨Nat.le_of_ble_eq_true rfl, Nat.le_of_ble_eq_true rfl⟩ ?_
          refine lv_isub hx hb dX4_ifRun_127 ?_
          obtain rfl := so_i hf
          exact cx_iw X hH rfl rfl (Nat.le_of_ble_eq_true rfl) (Nat.le_of_ble_eq_true rfl) dX4_ifRun_128
        · have hf := it_f c11 hf
          have nc7 : ¬ Int32.toInt x2 = 0 := ne_ti c7 (by decide)
          have nc8 : ¬ Int32.toInt x2 = 1 := ne_ti c8 (by decide)
          have nc9 : ¬ Int32.toInt x2 = 2 := ne_ti c9 (by decide)
          have nc11 : ¬ Int32.toInt x2 = 3 := ne_ti c11 (by decide)
          refine lv_tableOut (tgt := 129) hx hb dX4_ifRun_40 (by omega) (by decide) ?_
          refine lv_aload_n hx hb dX4_ifRun_129 rfl (lv_at hl 0 rfl) ?_
          refine cr_gRa X hH.1 (i := 1) (v := .ref (ad (15 * 1))) (by decide) gfX4_16 rfl dX4_ifRun_130 ?_
          refine lv_iconst (v := 1) hx hb dX4_ifRun_133 (by decide) ?_
          obtain ⟨t14, ht14, hf⟩ := bd_o hf
          refine k3_carsInState X (k := 1) (by omega) rfl hH.1 hl.1 qX4_165 ⟨Nat.le_of_ble_eq_true rfl, Nat.le_of_ble_eq_true rfl⟩ ht14 (Nat.le_of_ble_eq_true rfl) dX4_ifRun_134 ⟨Nat.le_of_ble_eq_true rfl, Nat.le_of_ble_eq_true rfl⟩ ?_
          obtain rfl := so_i hf
          exact cx_iw X hH rfl rfl (Nat.le_of_ble_eq_true rfl) (Nat.le_of_ble_eq_true rfl) dX4_ifRun_137
set_option maxRecDepth 100000 in
set_option maxHeartbeats 4000000 in
theorem c4_ifRun (l : Launch) {D : va_G} {Y : cYt} {ad : Nat → Nat} {mu : Nat → Nat → Int32} (hI : cInj ad) (hl0 : l.stackTraces = false) (sz : Nat) (x1 : Int32) (x2 : Int32) {t : Int32 × Int32 × (Nat → Nat → Int32)} (hf : f4_ifRun_0 x1 x2 mu = some t) : vx_Met l yX4_ifRun uX4_ifRun rm4_ifRun (va_Pc [.ref (ad 150), .int x1, .int x2] (fun U => U.heap.size = sz ∧ zx (cA ad sz) U ∧ cB D Y ad mu U)) (va_Qi (fun (r9 : Int32) (_ : Unit) => r9 = t.2.1 ∧ t.1 = 0) (fun _ t9 => cB D Y ad t.2.2 t9) (cA ad sz)) (vx_X (fun (_ : Unit) => ¬ t.1 = 0) (fun E _ t9 => E = xn t.1 ∧ cB D Y ad t.2.2 t9) (cA ad sz)) 2 12 (cA ad sz) := by
  refine vx_ofW (cc := cX4_ifRun) (maxL := 3) (ret := (some .int)) (by decide) rfl ?_
  intro p e s m args below meth c s₁ B hml hx0 hv
  obtain ⟨rfl, hsz, hz, hP, hK⟩ := hv
  subst hsz
  have X : cX D Y p s m ([.ref (ad 150), .int x1, .int x2] : List Value).toArray meth c cX4_ifRun 3 RX4 (some .int) := ⟨⟨B.exec, B.bytes, hml, findClass_of_methodNamed B.named, fun w h => atoms_spec (ws := uX4_ifRun) B.pre w (List.mem_cons_of_mem _ h)⟩, B.returns, B.notSynchronized, hK⟩
  have hl := lv_entry ([.ref (ad 150), .int x1, .int x2]) (n := 3) (Nat.le_of_ble_eq_true rfl)
  rw [lg_entry_eq]
  generalize (lg_sl ([.ref (ad 150), .int x1, .int x2]) ++ List.replicate (3 - (lg_sl ([.ref (ad 150), .int x1, .int x2])).length) Slot.unset).toArray = ls at hl ⊢
  have hl : lv_has ls 3 [(0, .ref (ad 150)), (1, .int x1), (2, .int x2)] := hl
  exact w4_ifRun_0 X hI hl0 ⟨List.eq_nil_iff_forall_not_mem.mpr (fun x h => hx0 x h), hz⟩ ⟨hP, va_S.rf⟩ (lv_sub hl [0, 1, 2] rfl) hf
/-! OreRailway.meanSpeed()F -/
def rm4_meanSpeed : Room := { frames := 0, cells := 0, slots := 0, locals := 0 }
def f4_meanSpeed_70 (mu : Nat → Nat → Int32) (y0 : UInt32) : Option (UInt32) := some y0
set_option maxRecDepth 100000 in
set_option maxHeartbeats 4000000 in
theorem w4_meanSpeed_70 {p : Program} {l : Launch} {e : Env} {s : State} {m : MethodId} {args : Array Value} {below : List Frame} {meth : Method} {c : Code} {D : va_G} {Y : cYt} {ad : Nat → Nat} {mu : Nat → Nat → Int32} (X : cX D Y p s m args meth c cX4_meanSpeed 4 RX4 (some .float)) (hP : va_P D vwCl (cwW Y ad mu) s.heap) {y0 : UInt32} {t : UInt32}  {ls : Array Slot} (hl : lv_has ls 4 []) (hf : f4_meanSpeed_70 mu y0 = some t) : W p l e rm4_meanSpeed s m args below meth c s.heap [] 0 0 (MQ below (QcReadF t) args s 0 0 (fun _ => False)) (F0 m 70 ls [.float y0]) := by
  obtain ⟨⟨hx, hb, hml, hown, hts⟩, hr, hlk, hK⟩ := id X
  replace hf : (some y0) = some t := hf
  obtain rfl := so_i hf
  exact rd_f hx hb hr hlk dX4_meanSpeed_70
def f4_meanSpeed_51 (mu : Nat → Nat → Int32) (K6 : Int32 → Int32 → Int32 → Option (UInt32)) (x1 : Int32) (x2 : Int32) (x3 : Int32) : Option (UInt32) := K6 x1 x2 (x3 + 1)
set_option maxRecDepth 100000 in
set_option maxHeartbeats 4000000 in
theorem w4_meanSpeed_51 {p : Program} {l : Launch} {e : Env} {s : State} {m : MethodId} {args : Array Value} {below : List Frame} {meth : Method} {c : Code} {D : va_G} {Y : cYt} {ad : Nat → Nat} {mu : Nat → Nat → Int32} (X : cX D Y p s m args meth c cX4_meanSpeed 4 RX4 (some .float)) (hP : va_P D vwCl (cwW Y ad mu) s.heap) {x1 : Int32} {x2 : Int32} {x3 : Int32} {t : UInt32} {K6 : Int32 → Int32 → Int32 → Option (UInt32)} (hK6 : ∀ (x1 : Int32) (x2 : Int32) (x3 : Int32) (ls : Array Slot), lv_has ls 4 [(0, .ref (ad 150)), (1, .int x1), (2, .int x2), (3, .int x3)] → K6 x1 x2 x3 = some t → W p l e rm4_meanSpeed s m args below meth c s.heap [] 0 0 (MQ below (QcReadF t) args s 0 0 (fun _ => False)) (F0 m 6 ls []))  {ls : Array Slot} (hl : lv_has ls 4 [(0, .ref (ad 150)), (1, .int x1), (2, .int x2), (3, .int x3)]) (hf : f4_meanSpeed_51 mu K6 x1 x2 x3 = some t) : W p l e rm4_meanSpeed s m args below meth c s.heap [] 0 0 (MQ below (QcReadF t) args s 0 0 (fun _ => False)) (F0 m 51 ls []) := by
  obtain ⟨⟨hx, hb, hml, hown, hts⟩, hr, hlk, hK⟩ := id X
  replace hf : (K6 x1 x2 (x3 + 1)) = some t := hf
  refine lv_iinc (v := x3 + 1) (lv' := [(3, .int (x3 + 1)), (0, .ref (ad 150)), (1, .int x1), (2, .int x2)]) hx hb dX4_meanSpeed_51 hl (k := 3) rfl rfl (by decide) rfl (fun ls hl => ?_)
  refine lv_goto (tgt := 6) hx hb dX4_meanSpeed_54 (by decide) ?_
  exact hK6 _ _ _ _ (lv_sub hl [1, 2, 3, 0] rfl) hf
def f4_meanSpeed_6 (mu : Nat → Nat → Int32) : Nat → Int32 → Int32 → Int32 → Option (UInt32)
  | 0, _, _, _ => none
  | n + 1, x1, x2, x3 => if (mu 0 162) ≤ x3 then (if x2 = 0 then (f4_meanSpeed_70 mu FP.fconst0) else (gf (FP.fdiv (FP.i2f x1) (FP.i2f x2)) (f4_meanSpeed_70 mu (FP.fdiv (FP.i2f x1) (FP.i2f x2))))) else (gd x3 8 (if (mu 0 (90 + 9 * ((Int32.toNatClampNeg x3)) + 0)) = 1 then (gd x3 8 (f4_meanSpeed_51 mu (f4_meanSpeed_6 mu n) (x1 + (mu 0 (90 + 9 * ((Int32.toNatClampNeg x3)) + 3))) (x2 + 1) x3)) else (f4_meanSpeed_51 mu (f4_meanSpeed_6 mu n) x1 x2 x3)))
set_option maxRecDepth 100000 in
set_option maxHeartbeats 4000000 in
theorem w4_meanSpeed_6 {p : Program} {l : Launch} {e : Env} {s : State} {m : MethodId} {args : Array Value} {below : List Frame} {meth : Method} {c : Code} {D : va_G} {Y : cYt} {ad : Nat → Nat} {mu : Nat → Nat → Int32} (X : cX D Y p s m args meth c cX4_meanSpeed 4 RX4 (some .float)) (hP : va_P D vwCl (cwW Y ad mu) s.heap) {t : UInt32} :
    ∀ (n : Nat) (x1 : Int32) (x2 : Int32) (x3 : Int32) (ls : Array Slot), lv_has ls 4 [(0, .ref (ad 150)), (1, .int x1), (2, .int x2), (3, .int x3)] → f4_meanSpeed_6 mu n x1 x2 x3 = some t → W p l e rm4_meanSpeed s m args below meth c s.heap [] 0 0 (MQ below (QcReadF t) args s 0 0 (fun _ => False)) (F0 m 6 ls []) := by
  obtain ⟨⟨hx, hb, hml, hown, hts⟩, hr, hlk, hK⟩ := id X
  intro n
  induction n with
  | zero =>
    intro x1 x2 x3 ls hl hf
    cases hf
  | succ n ih =>
    intro x1 x2 x3 ls hl hf
    replace hf : (if (mu 0 162) ≤ x3 then (if x2 = 0 then (f4_meanSpeed_70 mu FP.fconst0) else (gf (FP.fdiv (FP.i2f x1) (FP.i2f x2)) (f4_meanSpeed_70 mu (FP.fdiv (FP.i2f x1) (FP.i2f x2))))) else (gd x3 8 (if (mu 0 (90 + 9 * ((Int32.toNatClampNeg x3)) + 0)) = 1 then (gd x3 8 (f4_meanSpeed_51 mu (f4_meanSpeed_6 mu n) (x1 + (mu 0 (90 + 9 * ((Int32.toNatClampNeg x3)) + 3))) (x2 + 1) x3)) else (f4_meanSpeed_51 mu (f4_meanSpeed_6 mu n) x1 x2 x3)))) = some t := hf
    refine lv_iload_n hx hb dX4_meanSpeed_6 rfl (lv_at hl 3 rfl) ?_
    refine lv_aload_n hx hb dX4_meanSpeed_7 rfl (lv_at hl 0 rfl) ?_
    refine cr_gRa X hP (i := 0) (v := .ref (ad (15 * 0))) (by decide) gfX4_10 rfl dX4_meanSpeed_8 ?_
    refine cr_gSt X (k := 0) (by omega) rfl hP (i := 6) (v := .int (mu 0 162)) (by decide) gfX4_70 rfl dX4_meanSpeed_11 ?_
    refine lv_icmp_ge (tgt := 57) hx hb dX4_meanSpeed_14 (by decide) (fun c1 => ?_) (fun c1 => ?_)
    · have hf := it_t c1 hf
      refine lv_iload_n hx hb dX4_meanSpeed_57 rfl (lv_at hl 2 rfl) ?_
      refine lv_if_ne (tgt := 65) hx hb dX4_meanSpeed_58 (by decide) (fun c2 => ?_) (fun c2 => ?_)
      · have hf := it_f c2 hf
        refine lv_iload_n hx hb dX4_meanSpeed_65 rfl (lv_at hl 1 rfl) ?_
        refine lv_i2f hx hb dX4_meanSpeed_66 ?_
        refine lv_iload_n hx hb dX4_meanSpeed_67 rfl (lv_at hl 2 rfl) ?_
        refine lv_i2f hx hb dX4_meanSpeed_68 ?_
        obtain ⟨hn3, hf⟩ := gf_o hf
        refine lv_fdiv hx hb dX4_meanSpeed_69 hn3 ?_
        exact w4_meanSpeed_70 X hP  (lv_sub hl [] rfl) hf
      · have hf := it_t c2 hf
        refine lv_fconst0 hx hb dX4_meanSpeed_61 ?_
        refine lv_goto (tgt := 70) hx hb dX4_meanSpeed_62 (by decide) ?_
        exact w4_meanSpeed_70 X hP  (lv_sub hl [] rfl) hf
    · have hf := it_f c1 hf
      refine lv_aload_n hx hb dX4_meanSpeed_17 rfl (lv_at hl 0 rfl) ?_
      refine cr_gRa X hP (i := 0) (v := .ref (ad (15 * 0))) (by decide) gfX4_10 rfl dX4_meanSpeed_18 ?_
      refine cr_gSt X (k := 0) (by omega) rfl hP (i := 4) (v := .ref (ad (15 * 0 + 5))) (by decide) gfX4_156 rfl dX4_meanSpeed_21 ?_
      refine lv_iload_n hx hb dX4_meanSpeed_24 rfl (lv_at hl 3 rfl) ?_
      obtain ⟨hi4, hf⟩ := gd_o hf
      refine cr_cars X (k := 0) (by omega) hP hi4 dX4_meanSpeed_25 ?_
      refine cr_gCar X (k := 0) (by omega) rfl (j := (Int32.toNatClampNeg x3)) (vin_lt hi4) hP (i := 0) (v := .int (mu 0 (90 + 9 * ((Int32.toNatClampNeg x3)) + 0))) (by decide) gfX4_168 rfl dX4_meanSpeed_26 ?_
      refine lv_iconst (v := 1) hx hb dX4_meanSpeed_29 (by decide) ?_
      refine lv_icmp_ne (tgt := 51) hx hb dX4_meanSpeed_30 (by decide) (fun c5 => ?_) (fun c5 => ?_)
      · have hf := it_f c5 hf
        exact w4_meanSpeed_51 X hP (K6 := (f4_meanSpeed_6 mu n)) ih  (lv_sub hl [0, 1, 2, 3] rfl) hf
      · have hf := it_t c5 hf
        refine lv_iload_n hx hb dX4_meanSpeed_33 rfl (lv_at hl 1 rfl) ?_
        refine lv_aload_n hx hb dX4_meanSpeed_34 rfl (lv_at hl 0 rfl) ?_
        refine cr_gRa X hP (i := 0) (v := .ref (ad (15 * 0))) (by decide) gfX4_10 rfl dX4_meanSpeed_35 ?_
        refine cr_gSt X (k := 0) (by omega) rfl hP (i := 4) (v := .ref (ad (15 * 0 + 5))) (by decide) gfX4_156 rfl dX4_meanSpeed_38 ?_
        refine lv_iload_n hx hb dX4_meanSpeed_41 rfl (lv_at hl 3 rfl) ?_
        obtain ⟨hi6, hf⟩ := gd_o hf
        refine cr_cars X (k := 0) (by omega) hP hi6 dX4_meanSpeed_42 ?_
        refine cr_gCar X (k := 0) (by omega) rfl (j := (Int32.toNatClampNeg x3)) (vin_lt hi6) hP (i := 3) (v := .int (mu 0 (90 + 9 * ((Int32.toNatClampNeg x3)) + 3))) (by decide) gfX4_197 rfl dX4_meanSpeed_43 ?_
        refine lv_iadd hx hb dX4_meanSpeed_46 ?_
        refine lv_istore_n (lv' := [(1, .int (x1 + (mu 0 (90 + 9 * ((Int32.toNatClampNeg x3)) + 3)))), (0, .ref (ad 150)), (2, .int x2), (3, .int x3)]) hx hb dX4_meanSpeed_47 rfl hl (by decide) rfl (fun ls hl => ?_)
        refine lv_iinc (v := x2 + 1) (lv' := [(2, .int (x2 + 1)), (1, .int (x1 + (mu 0 (90 + 9 * ((Int32.toNatClampNeg x3)) + 3)))), (0, .ref (ad 150)), (3, .int x3)]) hx hb dX4_meanSpeed_48 hl (k := 2) rfl rfl (by decide) rfl (fun ls hl => ?_)
        exact w4_meanSpeed_51 X hP (K6 := (f4_meanSpeed_6 mu n)) ih  (lv_sub hl [2, 1, 0, 3] rfl) hf
def f4_meanSpeed_0 (mu : Nat → Nat → Int32) : Option (UInt32) := f4_meanSpeed_6 mu fu 0 0 0
set_option maxRecDepth 100000 in
set_option maxHeartbeats 4000000 in
theorem w4_meanSpeed_0 {p : Program} {l : Launch} {e : Env} {s : State} {m : MethodId} {args : Array Value} {below : List Frame} {meth : Method} {c : Code} {D : va_G} {Y : cYt} {ad : Nat → Nat} {mu : Nat → Nat → Int32} (X : cX D Y p s m args meth c cX4_meanSpeed 4 RX4 (some .float)) (hP : va_P D vwCl (cwW Y ad mu) s.heap) {t : UInt32}  {ls : Array Slot} (hl : lv_has ls 4 [(0, .ref (ad 150))]) (hf : f4_meanSpeed_0 mu  = some t) : W p l e rm4_meanSpeed s m args below meth c s.heap [] 0 0 (MQ below (QcReadF t) args s 0 0 (fun _ => False)) (F0 m 0 ls []) := by
  obtain ⟨⟨hx, hb, hml, hown, hts⟩, hr, hlk, hK⟩ := id X
  replace hf : (f4_meanSpeed_6 mu fu 0 0 0) = some t := hf
  refine lv_iconst (v := 0) hx hb dX4_meanSpeed_0 (by decide) ?_
  refine lv_istore_n (lv' := [(1, .int 0), (0, .ref (ad 150))]) hx hb dX4_meanSpeed_1 rfl hl (by decide) rfl (fun ls hl => ?_)
  refine lv_iconst (v := 0) hx hb dX4_meanSpeed_2 (by decide) ?_
  refine lv_istore_n (lv' := [(2, .int 0), (1, .int 0), (0, .ref (ad 150))]) hx hb dX4_meanSpeed_3 rfl hl (by decide) rfl (fun ls hl => ?_)
  refine lv_iconst (v := 0) hx hb dX4_meanSpeed_4 (by decide) ?_
  refine lv_istore_n (lv' := [(3, .int 0), (2, .int 0), (1, .int 0), (0, .ref (ad 150))]) hx hb dX4_meanSpeed_5 rfl hl (by decide) rfl (fun ls hl => ?_)
  exact w4_meanSpeed_6 X hP _ _ _ _ _ (lv_sub hl [3, 2, 1, 0] rfl) hf
set_option maxRecDepth 100000 in
set_option maxHeartbeats 4000000 in
theorem c4_meanSpeed (l : Launch) {D : va_G} {Y : cYt} {ad : Nat → Nat} {mu : Nat → Nat → Int32} {t : UInt32} (hf : f4_meanSpeed_0 mu = some t) : Met l yX4_meanSpeed uX4_meanSpeed rm4_meanSpeed (va_Pc [.ref (ad 150)] (cB D Y ad mu)) (QcReadF t) 0 0 (fun _ => False) := by
  refine Met.ofW (cc := cX4_meanSpeed) (maxL := 4) (ret := (some .float)) (by decide) rfl ?_
  intro p e s m args below meth c s₁ B hml hv
  obtain ⟨rfl, hP, hK⟩ := hv
  have X : cX D Y p s m ([.ref (ad 150)] : List Value).toArray meth c cX4_meanSpeed 4 RX4 (some .float) := ⟨⟨B.exec, B.bytes, hml, findClass_of_methodNamed B.named, fun w h => atoms_spec (ws := uX4_meanSpeed) B.pre w (List.mem_cons_of_mem _ h)⟩, B.returns, B.notSynchronized, hK⟩
  have hl := lv_entry ([.ref (ad 150)]) (n := 4) (Nat.le_of_ble_eq_true rfl)
  rw [lg_entry_eq]
  generalize (lg_sl ([.ref (ad 150)]) ++ List.replicate (4 - (lg_sl ([.ref (ad 150)])).length) Slot.unset).toArray = ls at hl ⊢
  have hl : lv_has ls 4 [(0, .ref (ad 150))] := hl
  exact w4_meanSpeed_0 X hP (lv_sub hl [0] rfl) hf
