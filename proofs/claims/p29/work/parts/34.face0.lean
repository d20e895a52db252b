/-! OreRailway.isWithin(III)Z -/
def rm4_isWithin : Room := { frames := 0, cells := 0, slots := 0, locals := 0 }
def f4_isWithin_15 (y0 : Int32) : Option (Int32) := gz y0 (some y0)
set_option maxRecDepth 100000 in
set_option maxHeartbeats 4000000 in
theorem w4_isWithin_15 {p : Program} {l : Launch} {e : Env} {s : State} {m : MethodId} {args : Array Value} {below : List Frame} {meth : Method} {c : Code} (X : sX p s m args meth c cX4_isWithin 3 RX4 (some .boolean)) {y0 : Int32} {t : Int32}  {ls : Array Slot} (hl : lv_has ls 3 []) (hf : f4_isWithin_15 y0 = some t) : W p l e rm4_isWithin s m args below meth c s.heap [] 0 0 (MQ below (QcRead t) args s 0 0 (fun _ => False)) (F0 m 15 ls [.int y0]) := by
  obtain ⟨⟨hx, hb, hml, hown, hts⟩, hr, hlk⟩ := id X
  replace hf : (gz y0 (some y0)) = some t := hf
  obtain ⟨hz, hf⟩ := gz_o hf
  obtain rfl := so_i hf
  exact rd_z hx hb hr hlk (nz_z hz) dX4_isWithin_15
def f4_isWithin_14 : Option (Int32) := f4_isWithin_15 0
set_option maxRecDepth 100000 in
set_option maxHeartbeats 4000000 in
theorem w4_isWithin_14 {p : Program} {l : Launch} {e : Env} {s : State} {m : MethodId} {args : Array Value} {below : List Frame} {meth : Method} {c : Code} (X : sX p s m args meth c cX4_isWithin 3 RX4 (some .boolean)) {t : Int32}  {ls : Array Slot} (hl : lv_has ls 3 []) (hf : f4_isWithin_14  = some t) : W p l e rm4_isWithin s m args below meth c s.heap [] 0 0 (MQ below (QcRead t) args s 0 0 (fun _ => False)) (F0 m 14 ls []) := by
  obtain ⟨⟨hx, hb, hml, hown, hts⟩, hr, hlk⟩ := id X
  replace hf : (f4_isWithin_15 0) = some t := hf
  refine lv_iconst (v := 0) hx hb dX4_isWithin_14 (by decide) ?_
  exact w4_isWithin_15 X  (lv_sub hl [] rfl) hf
def f4_isWithin_0 (x0 : Int32) (x1 : Int32) (x2 : Int32) : Option (Int32) := if x0 < x1 then (f4_isWithin_14 ) else (if x2 < x0 then (f4_isWithin_14 ) else (f4_isWithin_15 1))
set_option maxRecDepth 100000 in
set_option maxHeartbeats 4000000 in
theorem w4_isWithin_0 {p : Program} {l : Launch} {e : Env} {s : State} {m : MethodId} {args : Array Value} {below : List Frame} {meth : Method} {c : Code} (X : sX p s m args meth c cX4_isWithin 3 RX4 (some .boolean)) {x0 : Int32} {x1 : Int32} {x2 : Int32} {t : Int32}  {ls : Array Slot} (hl : lv_has ls 3 [(0, .int x0), (1, .int x1), (2, .int x2)]) (hf : f4_isWithin_0 x0 x1 x2 = some t) : W p l e rm4_isWithin s m args below meth c s.heap [] 0 0 (MQ below (QcRead t) args s 0 0 (fun _ => False)) (F0 m 0 ls []) := by
  obtain ⟨⟨hx, hb, hml, hown, hts⟩, hr, hlk⟩ := id X
  replace hf : (if x0 < x1 then (f4_isWithin_14 ) else (if x2 < x0 then (f4_isWithin_14 ) else (f4_isWithin_15 1))) = some t := hf
  refine lv_iload_n hx hb dX4_isWithin_0 rfl (lv_at hl 0 rfl) ?_
  refine lv_iload_n hx hb dX4_isWithin_1 rfl (lv_at hl 1 rfl) ?_
  refine lv_icmp_lt (tgt := 14) hx hb dX4_isWithin_2 (by decide) (fun c1 => ?_) (fun c1 => ?_)
  · have hf := it_t c1 hf
    exact w4_isWithin_14 X  (lv_sub hl [] rfl) hf
  · have hf := it_f c1 hf
    refine lv_iload_n hx hb dX4_isWithin_5 rfl (lv_at hl 0 rfl) ?_
    refine lv_iload_n hx hb dX4_isWithin_6 rfl (lv_at hl 2 rfl) ?_
    refine lv_icmp_gt (tgt := 14) hx hb dX4_isWithin_7 (by decide) (fun c2 => ?_) (fun c2 => ?_)
    · have hf := it_t c2 hf
      exact w4_isWithin_14 X  (lv_sub hl [] rfl) hf
    · have hf := it_f c2 hf
      refine lv_iconst (v := 1) hx hb dX4_isWithin_10 (by decide) ?_
      refine lv_goto (tgt := 15) hx hb dX4_isWithin_11 (by decide) ?_
      exact w4_isWithin_15 X  (lv_sub hl [] rfl) hf
set_option maxRecDepth 100000 in
set_option maxHeartbeats 4000000 in
theorem c4_isWithin (l : Launch) (x0 : Int32) (x1 : Int32) (x2 : Int32) {t : Int32} (hf : f4_isWithin_0 x0 x1 x2 = some t) : Met l yX4_isWithin uX4_isWithin rm4_isWithin (fun v _ => v = ([.int x0, .int x1, .int x2] : List Value).toArray) (QcRead t) 0 0 (fun _ => False) := by
  refine Met.ofW (cc := cX4_isWithin) (maxL := 3) (ret := (some .boolean)) (by decide) rfl ?_
  intro p e s m args below meth c s₁ B hml hv
  obtain rfl := hv
  have X : sX p s m ([.int x0, .int x1, .int x2] : List Value).toArray meth c cX4_isWithin 3 RX4 (some .boolean) := ⟨⟨B.exec, B.bytes, hml, findClass_of_methodNamed B.named, fun w h => atoms_spec (ws := uX4_isWithin) B.pre w (List.mem_cons_of_mem _ h)⟩, B.returns, B.notSynchronized⟩
  have hl := lv_entry ([.int x0, .int x1, .int x2]) (n := 3) (Nat.le_of_ble_eq_true rfl)
  rw [lg_entry_eq]
  generalize (lg_sl ([.int x0, .int x1, .int x2]) ++ List.replicate (3 - (lg_sl ([.int x0, .int x1, .int x2])).length) Slot.unset).toArray = ls at hl ⊢
  have hl : lv_has ls 3 [(0, .int x0), (1, .int x1), (2, .int x2)] := hl
  exact w4_isWithin_0 X (lv_sub hl [0, 1, 2] rfl) hf
set_option maxRecDepth 100000 in
set_option maxHeartbeats 4000000 in
theorem k4_isWithin {p : Program} {l : Launch} {e : Env} {R : Room} {s : State} {m : MethodId} {args : Array Value} {below : List Frame} {meth : Method} {c : Code} {cc : ByteArray} {nL : Nat} {own : String} {H : Heap} {locs : List Loc} {cells slots : Nat} {Q : State → Prop} {pc : Nat} {ls : Array Slot} {rest : List Value} (S : CallFix p m c cc nL s args gw own) (hls : ls.size = nL) {index : Nat} (hG : GoodIn gw (va_wsS own index yX4_isWithin uX4_isWithin)) (hR : rm4_isWithin.frames + 1 ≤ R.frames ∧ 8 + (3 + 11) + rm4_isWithin.locals ≤ R.locals) {x0 : Int32} {x1 : Int32} {x2 : Int32} {t : Int32} (hf : f4_isWithin_0 x0 x1 x2 = some t) (hrest : (rest.map fun v => v.category).sum ≤ 8) (hdg : decode cc pc = .ok (.invokestatic index, 3)) (hc : cells ≤ R.cells ∧ slots ≤ R.slots) (kk : W p l e R s m args below meth c H locs cells slots Q (F0 m (pc + 3) ls (.int t :: rest))) : W p l e R s m args below meth c H locs cells slots Q (F0 m pc ls (.int x2 :: .int x1 :: .int x0 :: rest)) :=
  W.callR (W.runS S (c4_isWithin l x0 x1 x2 hf) (va_cwS 3 S.2.2.2.2 hG rfl rfl rfl (by decide +kernel) hR) preEq rfl rfl hls rfl (lv_room hrest) hdg hc) kk
/-! OreRailway.grade(II)I -/
def rm4_grade : Room := { frames := 7, cells := 2, slots := 12, locals := 110 }
def f4_grade_15 (x1 : Int32) (x2 : Int32) (y0 : Int32) (mu : Nat → Nat → Int32) : Option (Int32 × Int32 × (Nat → Nat → Int32)) := if y0 = 0 then (some (1, 0, mu)) else (Option.bind (f4_isWithin_0 x2 0 9) (fun t2 => if t2 = 0 then (some (2, 0, mu)) else (Option.bind (f1_push_0 mu) (fun t4 => gd x1 30 (gd x1 30 (some (0, t4 0 (Int32.toNatClampNeg x1), s1 t4 0 (upd (t4 0) (Int32.toNatClampNeg x1) x2))))))))
set_option maxRecDepth 100000 in
set_option maxHeartbeats 4000000 in
theorem w4_grade_15 {p : Program} {l : Launch} {e : Env} {s : State} {m : MethodId} {args : Array Value} {below : List Frame} {meth : Method} {c : Code} {D : va_G} {Y : cYt} {ad : Nat → Nat} {mu : Nat → Nat → Int32} (X : cX D Y p s m args meth c cX4_grade 4 RX4 (some .int)) (hI : cInj ad) (hl0 : l.stackTraces = false) (hZ : c.exceptionTable.toList = [] ∧ zx (cA ad s.heap.size) s)  {x1 : Int32} {x2 : Int32} {y0 : Int32} {t : Int32 × Int32 × (Nat → Nat → Int32)}  {H : Heap} {locs : List Loc} (hH : cH D Y ad mu s H locs) {ls : Array Slot} (hl : lv_has ls 4 [(0, .ref (ad 150)), (1, .int x1), (2, .int x2)]) (hf : f4_grade_15 x1 x2 y0 mu = some t) : W p l e rm4_grade s m args below meth c H locs 0 0 (vx_MQ below (va_Qi (fun (r9 : Int32) (_ : Unit) => r9 = t.2.1 ∧ t.1 = 0) (fun _ t9 => cB D Y ad t.2.2 t9) (cA ad s.heap.size)) (vx_X (fun (_ : Unit) => ¬ t.1 = 0) (fun E _ t9 => E = xn t.1 ∧ cB D Y ad t.2.2 t9) (cA ad s.heap.size)) args s 2 12 (cA ad s.heap.size)) (F0 m 15 ls [.int y0]) := by
  obtain ⟨⟨hx, hb, hml, hown, hts⟩, hr, hlk, hK⟩ := id X
  replace hf : (if y0 = 0 then (some (1, 0, mu)) else (Option.bind (f4_isWithin_0 x2 0 9) (fun t2 => if t2 = 0 then (some (2, 0, mu)) else (Option.bind (f1_push_0 mu) (fun t4 => gd x1 30 (gd x1 30 (some (0, t4 0 (Int32.toNatClampNeg x1), s1 t4 0 (upd (t4 0) (Int32.toNatClampNeg x1) x2))))))))) = some t := hf
  refine rq_1 X hl0 hZ hH hl.1 qX4_41 ⟨Nat.le_of_ble_eq_true rfl, Nat.le_of_ble_eq_true rfl⟩ dX4_grade_15 ⟨Nat.le_of_ble_eq_true rfl, Nat.le_of_ble_eq_true rfl⟩ ⟨Nat.le_of_ble_eq_true rfl, Nat.le_of_ble_eq_true rfl⟩ (fun c1 => ?_) (fun c1 => ?_)
  · have hf := it_t c1 hf
    obtain rfl := so_i hf
    exact ⟨rfl, rfl⟩
  have hf := it_f c1 hf
  refine lv_iload_n hx hb dX4_grade_18 rfl (lv_at hl 2 rfl) ?_
  refine lv_iconst (v := 0) hx hb dX4_grade_19 (by decide) ?_
  refine lv_bipush (v := 9) hx hb dX4_grade_20 (by decide) ?_
  obtain ⟨t2, ht2, hf⟩ := bd_o hf
  refine k4_isWithin X.1 hl.1 qX4_45 ⟨Nat.le_of_ble_eq_true rfl, Nat.le_of_ble_eq_true rfl⟩ ht2 (Nat.le_of_ble_eq_true rfl) dX4_grade_22 ⟨Nat.le_of_ble_eq_true rfl, Nat.le_of_ble_eq_true rfl⟩ ?_
  refine rq_2 X hl0 hZ hH hl.1 qX4_49 ⟨Nat.le_of_ble_eq_true rfl, Nat.le_of_ble_eq_true rfl⟩ dX4_grade_25 ⟨Nat.le_of_ble_eq_true rfl, Nat.le_of_ble_eq_true rfl⟩ ⟨Nat.le_of_ble_eq_true rfl, Nat.le_of_ble_eq_true rfl⟩ (fun c3 => ?_) (fun c3 => ?_)
  · have hf := it_t c3 hf
    obtain rfl := so_i hf
    exact ⟨rfl, rfl⟩
  have hf := it_f c3 hf
  refine lv_aload_n hx hb dX4_grade_28 rfl (lv_at hl 0 rfl) ?_
  refine cr_gRa X hH.1 (i := 2) (v := .ref (ad 151)) (by decide) gfX4_22 rfl dX4_grade_29 ?_
  refine lv_aload_n hx hb dX4_grade_32 rfl (lv_at hl 0 rfl) ?_
  refine cr_gRa X hH.1 (i := 0) (v := .ref (ad (15 * 0))) (by decide) gfX4_10 rfl dX4_grade_33 ?_
  obtain ⟨t4, ht4, hf⟩ := bd_o hf
  refine k1_push X hI hH hl.1 qX4_52 ⟨Nat.le_of_ble_eq_true rfl, Nat.le_of_ble_eq_true rfl⟩ ht4 (Nat.le_of_ble_eq_true rfl) dX4_grade_36 ⟨Nat.le_of_ble_eq_true rfl, Nat.le_of_ble_eq_true rfl⟩ (fun H locs hH => ?_)
  refine lv_aload_n hx hb dX4_grade_39 rfl (lv_at hl 0 rfl) ?_
  refine cr_gRa X hH.1 (i := 0) (v := .ref (ad (15 * 0))) (by decide) gfX4_10 rfl dX4_grade_40 ?_
  refine cr_gSt X (k := 0) (by omega) rfl hH.1 (i := 0) (v := .ref (ad (15 * 0 + 1))) (by decide) gfX4_56 rfl dX4_grade_43 ?_
  refine lv_iload_n hx hb dX4_grade_46 rfl (lv_at hl 1 rfl) ?_
  obtain ⟨hi5, hf⟩ := gd_o hf
  refine cr_ld1 X (k := 0) (by omega) rfl hH.1 hi5 dX4_grade_47 ?_
  refine lv_istore_n (lv' := [(3, .int (t4 0 (Int32.toNatClampNeg x1))), (0, .ref (ad 150)), (1, .int x1), (2, .int x2)]) hx hb dX4_grade_48 rfl hl (by decide) rfl (fun ls hl => ?_)
  refine lv_aload_n hx hb dX4_grade_49 rfl (lv_at hl 1 rfl) ?_
  refine cr_gRa X hH.1 (i := 0) (v := .ref (ad (15 * 0))) (by decide) gfX4_10 rfl dX4_grade_50 ?_
  refine cr_gSt X (k := 0) (by omega) rfl hH.1 (i := 0) (v := .ref (ad (15 * 0 + 1))) (by decide) gfX4_56 rfl dX4_grade_53 ?_
  refine lv_iload_n hx hb dX4_grade_56 rfl (lv_at hl 2 rfl) ?_
  refine lv_iload_n hx hb dX4_grade_57 rfl (lv_at hl 3 rfl) ?_
  obtain ⟨hi6, hf⟩ := gd_o hf
  refine cv_st1 X hI (k := 0) (by omega) (cH_in 0 hH) hi6 dX4_grade_58 (fun H locs hH => ?_)
  refine lv_iload_n hx hb dX4_grade_59 rfl (lv_at hl 0 rfl) ?_
  obtain rfl := so_i hf
  exact cx_iw X hH rfl rfl (Nat.le_of_ble_eq_true rfl) (Nat.le_of_ble_eq_true rfl) dX4_grade_60
def f4_grade_14 (x1 : Int32) (x2 : Int32) (mu : Nat → Nat → Int32) : Option (Int32 × Int32 × (Nat → Nat → Int32)) := f4_grade_15 x1 x2 0 mu
set_option maxRecDepth 100000 in
set_option maxHeartbeats 4000000 in
theorem w4_grade_14 {p : Program} {l : Launch} {e : Env} {s : State} {m : MethodId} {args : Array Value} {below : List Frame} {meth : Method} {c : Code} {D : va_G} {Y : cYt} {ad : Nat → Nat} {mu : Nat → Nat → Int32} (X : cX D Y p s m args meth c cX4_grade 4 RX4 (some .int)) (hI : cInj ad) (hl0 : l.stackTraces = false) (hZ : c.exceptionTable.toList = [] ∧ zx (cA ad s.heap.size) s)  {x1 : Int32} {x2 : Int32} {t : Int32 × Int32 × (Nat → Nat → Int32)}  {H : Heap} {locs : List Loc} (hH : cH D Y ad mu s H locs) {ls : Array Slot} (hl : lv_has ls 4 [(0, .ref (ad 150)), (1, .int x1), (2, .int x2)]) (hf : f4_grade_14 x1 x2 mu = some t) : W p l e rm4_grade s m args below meth c H locs 0 0 (vx_MQ below (va_Qi (fun (r9 : Int32) (_ : Unit) => r9 = t.2.1 ∧ t.1 = 0) (fun _ t9 => cB D Y ad t.2.2 t9) (cA ad s.heap.size)) (vx_X (fun (_ : Unit) => ¬ t.1 = 0) (fun E _ t9 => E = xn t.1 ∧ cB D Y ad t.2.2 t9) (cA ad s.heap.size)) args s 2 12 (cA ad s.heap.size)) (F0 m 14 ls []) := by
  obtain ⟨⟨hx, hb, hml, hown, hts⟩, hr, hlk, hK⟩ := id X
  replace hf : (f4_grade_15 x1 x2 0 mu) = some t := hf
  refine lv_iconst (v := 0) hx hb dX4_grade_14 (by decide) ?_
  exact w4_grade_15 X hI hl0 hZ hH (lv_sub hl [0, 1, 2] rfl) hf
def f4_grade_0 (x1 : Int32) (x2 : Int32) (mu : Nat → Nat → Int32) : Option (Int32 × Int32 × (Nat → Nat → Int32)) := if x1 < 0 then (f4_grade_14 x1 x2 mu) else (if 30 ≤ x1 then (f4_grade_14 x1 x2 mu) else (f4_grade_15 x1 x2 1 mu))
set_option maxRecDepth 100000 in
set_option maxHeartbeats 4000000 in
theorem w4_grade_0 {p : Program} {l : Launch} {e : Env} {s : State} {m : MethodId} {args : Array Value} {below : List Frame} {meth : Method} {c : Code} {D : va_G} {Y : cYt} {ad : Nat → Nat} {mu : Nat → Nat → Int32} (X : cX D Y p s m args meth c cX4_grade 4 RX4 (some .int)) (hI : cInj ad) (hl0 : l.stackTraces = false) (hZ : c.exceptionTable.toList = [] ∧ zx (cA ad s.heap.size) s)  {x1 : Int32} {x2 : Int32} {t : Int32 × Int32 × (Nat → Nat → Int32)}  {H : Heap} {locs : List Loc} (hH : cH D Y ad mu s H locs) {ls : Array Slot} (hl : lv_has ls 4 [(0, .ref (ad 150)), (1, .int x1), (2, .int x2)]) (hf : f4_grade_0 x1 x2 mu = some t) : W p l e rm4_grade s m args below meth c H locs 0 0 (vx_MQ below (va_Qi (fun (r9 : Int32) (_ : Unit) => r9 = t.2.1 ∧ t.1 = 0) (fun _ t9 => cB D Y ad t.2.2 t9) (cA ad s.heap.size)) (vx_X (fun (_ : Unit) => ¬ t.1 = 0) (fun E _ t9 => E = xn t.1 ∧ cB D Y ad t.2.2 t9) (cA ad s.heap.size)) args s 2 12 (cA ad s.heap.size)) (F0 m 0 ls []) := by
  obtain ⟨⟨hx, hb, hml, hown, hts⟩, hr, hlk, hK⟩ := id X
  replace hf : (if x1 < 0 then (f4_grade_14 x1 x2 mu) else (if 30 ≤ x1 then (f4_grade_14 x1 x2 mu) else (f4_grade_15 x1 x2 1 mu))) = some t := hf
  refine lv_iload_n hx hb dX4_grade_0 rfl (lv_at hl 1 rfl) ?_
  refine lv_if_lt (tgt := 14) hx hb dX4_grade_1 (by decide) (fun c1 => ?_) (fun c1 => ?_)
  · have hf := it_t c1 hf
    exact w4_grade_14 X hI hl0 hZ hH (lv_sub hl [0, 1, 2] rfl) hf
  · have hf := it_f c1 hf
    refine lv_iload_n hx hb dX4_grade_4 rfl (lv_at hl 1 rfl) ?_
    refine lv_bipush (v := 30) hx hb dX4_grade_5 (by decide) ?_
    refine lv_icmp_ge (tgt := 14) hx hb dX4_grade_7 (by decide) (fun c2 => ?_) (fun c2 => ?_)
    · have hf := it_t c2 hf
      exact w4_grade_14 X hI hl0 hZ hH (lv_sub hl [0, 1, 2] rfl) hf
    · have hf := it_f c2 hf
      refine lv_iconst (v := 1) hx hb dX4_grade_10 (by decide) ?_
      refine lv_goto (tgt := 15) hx hb dX4_grade_11 (by decide) ?_
      exact w4_grade_15 X hI hl0 hZ hH (lv_sub hl [0, 1, 2] rfl) hf
set_option maxRecDepth 100000 in
set_option maxHeartbeats 4000000 in
theorem c4_grade (l : Launch) {D : va_G} {Y : cYt} {ad : Nat → Nat} {mu : Nat → Nat → Int32} (hI : cInj ad) (hl0 : l.stackTraces = false) (sz : Nat) (x1 : Int32) (x2 : Int32) {t : Int32 × Int32 × (Nat → Nat → Int32)} (hf : f4_grade_0 x1 x2 mu = some t) : vx_Met l yX4_grade uX4_grade rm4_grade (va_Pc [.ref (ad 150), .int x1, .int x2] (fun U => U.heap.size = sz ∧ zx (cA ad sz) U ∧ cB D Y ad mu U)) (va_Qi (fun (r9 : Int32) (_ : Unit) => r9 = t.2.1 ∧ t.1 = 0) (fun _ t9 => cB D Y ad t.2.2 t9) (cA ad sz)) (vx_X (fun (_ : Unit) => ¬ t.1 = 0) (fun E _ t9 => E = xn t.1 ∧ cB D Y ad t.2.2 t9) (cA ad sz)) 2 12 (cA ad sz) := by
  refine vx_ofW (cc := cX4_grade) (maxL := 4) (ret := (some .int)) (by decide) rfl ?_
  intro p e s m args below meth c s₁ B hml hx0 hv
  obtain ⟨rfl, hsz, hz, hP, hK⟩ := hv
  subst hsz
  have X : cX D Y p s m ([.ref (ad 150), .int x1, .int x2] : List Value).toArray meth c cX4_grade 4 RX4 (some .int) := ⟨⟨B.exec, B.bytes, hml, findClass_of_methodNamed B.named, fun w h => atoms_spec (ws := uX4_grade) B.pre w (List.mem_cons_of_mem _ h)⟩, B.returns, B.notSynchronized, hK⟩
  have hl := lv_entry ([.ref (ad 150), .int x1, .int x2]) (n := 4) (Nat.le_of_ble_eq_true rfl)
  rw [lg_entry_eq]
  generalize (lg_sl ([.ref (ad 150), .int x1, .int x2]) ++ List.replicate (4 - (lg_sl ([.ref (ad 150), .int x1, .int x2])).length) Slot.unset).toArray = ls at hl ⊢
  have hl : lv_has ls 4 [(0, .ref (ad 150)), (1, .int x1), (2, .int x2)] := hl
  exact w4_grade_0 X hI hl0 ⟨List.eq_nil_iff_forall_not_mem.mpr (fun x h => hx0 x h), hz⟩ ⟨hP, va_S.rf⟩ (lv_sub hl [0, 1, 2] rfl) hf
/-! OreRailway.spring(II)I -/
def rm4_spring : Room := { frames := 7, cells := 3, slots := 18, locals := 110 }
def f4_spring_63 (x1 : Int32) (x2 : Int32) (x3 : Int32) (y0 : Int32) (mu : Nat → Nat → Int32) : Option (Int32 × Int32 × (Nat → Nat → Int32)) := if y0 = 0 then (some (3, 0, mu)) else (Option.bind (f1_push_0 mu) (fun t2 => gd x1 30 (some (0, x3, s1 t2 0 (upd (t2 0) (30 + Int32.toNatClampNeg x1) x2)))))
set_option maxRecDepth 100000 in
set_option maxHeartbeats 4000000 in
theorem w4_spring_63 {p : Program} {l : Launch} {e : Env} {s : State} {m : MethodId} {args : Array Value} {below : List Frame} {meth : Method} {c : Code} {D : va_G} {Y : cYt} {ad : Nat → Nat} {mu : Nat → Nat → Int32} (X : cX D Y p s m args meth c cX4_spring 4 RX4 (some .int)) (hI : cInj ad) (hl0 : l.stackTraces = false) (hZ : c.exceptionTable.toList = [] ∧ zx (cA ad s.heap.size) s)  {x1 : Int32} {x2 : Int32} {x3 : Int32} {y0 : Int32} {t : Int32 × Int32 × (Nat → Nat → Int32)}  {H : Heap} {locs : List Loc} (hH : cH D Y ad mu s H locs) {ls : Array Slot} (hl : lv_has ls 4 [(0, .ref (ad 150)), (1, .int x1), (2, .int x2), (3, .int x3)]) (hf : f4_spring_63 x1 x2 x3 y0 mu = some t) : W p l e rm4_spring s m args below meth c H locs 2 12 (vx_MQ below (va_Qi (fun (r9 : Int32) (_ : Unit) => r9 = t.2.1 ∧ t.1 = 0) (fun _ t9 => cB D Y ad t.2.2 t9) (cA ad s.heap.size)) (vx_X (fun (_ : Unit) => ¬ t.1 = 0) (fun E _ t9 => E = xn t.1 ∧ cB D Y ad t.2.2 t9) (cA ad s.heap.size)) args s 3 18 (cA ad s.heap.size)) (F0 m 63 ls [.int y0]) := by
  obtain ⟨⟨hx, hb, hml, hown, hts⟩, hr, hlk, hK⟩ := id X
  replace hf : (if y0 = 0 then (some (3, 0, mu)) else (Option.bind (f1_push_0 mu) (fun t2 => gd x1 30 (some (0, x3, s1 t2 0 (upd (t2 0) (30 + Int32.toNatClampNeg x1) x2)))))) = some t := hf
  refine rq_3 X hl0 hZ hH hl.1 qX4_67 ⟨Nat.le_of_ble_eq_true rfl, Nat.le_of_ble_eq_true rfl⟩ dX4_spring_63 ⟨Nat.le_of_ble_eq_true rfl, Nat.le_of_ble_eq_true rfl⟩ ⟨Nat.le_of_ble_eq_true rfl, Nat.le_of_ble_eq_true rfl⟩ (fun c1 => ?_) (fun c1 => ?_)
  · have hf := it_t c1 hf
    obtain rfl := so_i hf
    exact ⟨rfl, rfl⟩
  have hf := it_f c1 hf
  refine lv_aload_n hx hb dX4_spring_66 rfl (lv_at hl 0 rfl) ?_
  refine cr_gRa X hH.1 (i := 2) (v := .ref (ad 151)) (by decide) gfX4_22 rfl dX4_spring_67 ?_
  refine lv_aload_n hx hb dX4_spring_70 rfl (lv_at hl 0 rfl) ?_
  refine cr_gRa X hH.1 (i := 0) (v := .ref (ad (15 * 0))) (by decide) gfX4_10 rfl dX4_spring_71 ?_
  obtain ⟨t2, ht2, hf⟩ := bd_o hf
  refine k1_push X hI hH hl.1 qX4_52 ⟨Nat.le_of_ble_eq_true rfl, Nat.le_of_ble_eq_true rfl⟩ ht2 (Nat.le_of_ble_eq_true rfl) dX4_spring_74 ⟨Nat.le_of_ble_eq_true rfl, Nat.le_of_ble_eq_true rfl⟩ (fun H locs hH => ?_)
  refine lv_aload_n hx hb dX4_spring_77 rfl (lv_at hl 0 rfl) ?_
  refine cr_gRa X hH.1 (i := 0) (v := .ref (ad (15 * 0))) (by decide) gfX4_10 rfl dX4_spring_78 ?_
  refine cr_gSt X (k := 0) (by omega) rfl hH.1 (i := 1) (v := .ref (ad (15 * 0 + 2))) (by decide) gfX4_60 rfl dX4_spring_81 ?_
  refine lv_iload_n hx hb dX4_spring_84 rfl (lv_at hl 1 rfl) ?_
  refine lv_iload_n hx hb dX4_spring_85 rfl (lv_at hl 2 rfl) ?_
  obtain ⟨hi3, hf⟩ := gd_o hf
  refine cv_st2 X hI (k := 0) (by omega) (cH_in 0 hH) hi3 dX4_spring_86 (fun H locs hH => ?_)
  refine lv_iload_n hx hb dX4_spring_87 rfl (lv_at hl 3 rfl) ?_
  obtain rfl := so_i hf
  exact cx_iw X hH rfl rfl (Nat.le_of_ble_eq_true rfl) (Nat.le_of_ble_eq_true rfl) dX4_spring_88
def f4_spring_58 (x1 : Int32) (x2 : Int32) (x3 : Int32) (mu : Nat → Nat → Int32) : Option (Int32 × Int32 × (Nat → Nat → Int32)) := f4_spring_63 x1 x2 x3 1 mu
set_option maxRecDepth 100000 in
set_option maxHeartbeats 4000000 in
theorem w4_spring_58 {p : Program} {l : Launch} {e : Env} {s : State} {m : MethodId} {args : Array Value} {below : List Frame} {meth : Method} {c : Code} {D : va_G} {Y : cYt} {ad : Nat → Nat} {mu : Nat → Nat → Int32} (X : cX D Y p s m args meth c cX4_spring 4 RX4 (some .int)) (hI : cInj ad) (hl0 : l.stackTraces = false) (hZ : c.exceptionTable.toList = [] ∧ zx (cA ad s.heap.size) s)  {x1 : Int32} {x2 : Int32} {x3 : Int32} {t : Int32 × Int32 × (Nat → Nat → Int32)}  {H : Heap} {locs : List Loc} (hH : cH D Y ad mu s H locs) {ls : Array Slot} (hl : lv_has ls 4 [(0, .ref (ad 150)), (1, .int x1), (2, .int x2), (3, .int x3)]) (hf : f4_spring_58 x1 x2 x3 mu = some t) : W p l e rm4_spring s m args below meth c H locs 2 12 (vx_MQ below (va_Qi (fun (r9 : Int32) (_ : Unit) => r9 = t.2.1 ∧ t.1 = 0) (fun _ t9 => cB D Y ad t.2.2 t9) (cA ad s.heap.size)) (vx_X (fun (_ : Unit) => ¬ t.1 = 0) (fun E _ t9 => E = xn t.1 ∧ cB D Y ad t.2.2 t9) (cA ad s.heap.size)) args s 3 18 (cA ad s.heap.size)) (F0 m 58 ls []) := by
  obtain ⟨⟨hx, hb, hml, hown, hts⟩, hr, hlk, hK⟩ := id X
  replace hf : (f4_spring_63 x1 x2 x3 1 mu) = some t := hf
  refine lv_iconst (v := 1) hx hb dX4_spring_58 (by decide) ?_
  refine lv_goto (tgt := 63) hx hb dX4_spring_59 (by decide) ?_
  exact w4_spring_63 X hI hl0 hZ hH (lv_sub hl [0, 1, 2, 3] rfl) hf
def f4_spring_16 (x1 : Int32) (x2 : Int32) (y0 : Int32) (mu : Nat → Nat → Int32) : Option (Int32 × Int32 × (Nat → Nat → Int32)) := if y0 = 0 then (some (1, 0, mu)) else (Option.bind (f4_isWithin_0 x2 0 40) (fun t2 => if t2 = 0 then (some (2, 0, mu)) else (gd x1 30 (if x2 = 0 then (f4_spring_58 x1 x2 (mu 0 (30 + Int32.toNatClampNeg x1)) mu) else (if (mu 0 (30 + Int32.toNatClampNeg x1)) = 0 then (Option.bind (f3_switchCount_0 (mu 0)) (fun t7 => if 4 ≤ t7 then (f4_spring_63 x1 x2 (mu 0 (30 + Int32.toNatClampNeg x1)) 0 mu) else (f4_spring_58 x1 x2 (mu 0 (30 + Int32.toNatClampNeg x1)) mu))) else (f4_spring_58 x1 x2 (mu 0 (30 + Int32.toNatClampNeg x1)) mu))))))
set_option maxRecDepth 100000 in
set_option maxHeartbeats 4000000 in
theorem w4_spring_16 {p : Program} {l : Launch} {e : Env} {s : State} {m : MethodId} {args : Array Value} {below : List Frame} {meth : Method} {c : Code} {D : va_G} {Y : cYt} {ad : Nat → Nat} {mu : Nat → Nat → Int32} (X : cX D Y p s m args meth c cX4_spring 4 RX4 (some .int)) (hI : cInj ad) (hl0 : l.stackTraces = false) (hZ : c.exceptionTable.toList = [] ∧ zx (cA ad s.heap.size) s)  {x1 : Int32} {x2 : Int32} {y0 : Int32} {t : Int32 × Int32 × (Nat → Nat → Int32)}  {H : Heap} {locs : List Loc} (hH : cH D Y ad mu s H locs) {ls : Array Slot} (hl : lv_has ls 4 [(0, .ref (ad 150)), (1, .int x1), (2, .int x2)]) (hf : f4_spring_16 x1 x2 y0 mu = some t) : W p l e rm4_spring s m args below meth c H locs 0 0 (vx_MQ below (va_Qi (fun (r9 : Int32) (_ : Unit) => r9 = t.2.1 ∧ t.1 = 0) (fun _ t9 => cB D Y ad t.2.2 t9) (cA ad s.heap.size)) (vx_X (fun (_ : Unit) => ¬ t.1 = 0) (fun E _ t9 => E = xn t.1 ∧ cB D Y ad t.2.2 t9) (cA ad s.heap.size)) args s 3 18 (cA ad s.heap.size)) (F0 m 16 ls [.int y0]) := by
  obtain ⟨⟨hx, hb, hml, hown, hts⟩, hr, hlk, hK⟩ := id X
  replace hf : (if y0 = 0 then (some (1, 0, mu)) else (Option.bind (f4_isWithin_0 x2 0 40) (fun t2 => if t2 = 0 then (some (2, 0, mu)) else (gd x1 30 (if x2 = 0 then (f4_spring_58 x1 x2 (mu 0 (30 + Int32.toNatClampNeg x1)) mu) else (if (mu 0 (30 + Int32.toNatClampNeg x1)) = 0 then (Option.bind (f3_switchCount_0 (mu 0)) (fun t7 => if 4 ≤ t7 then (f4_spring_63 x1 x2 (mu 0 (30 + Int32.toNatClampNeg x1)) 0 mu) else (f4_spring_58 x1 x2 (mu 0 (30 + Int32.toNatClampNeg x1)) mu))) else (f4_spring_58 x1 x2 (mu 0 (30 + Int32.toNatClampNeg x1)) mu))))))) = some t := hf
  refine rq_1 X hl0 hZ hH hl.1 qX4_41 ⟨Nat.le_of_ble_eq_true rfl, Nat.le_of_ble_eq_true rfl⟩ dX4_spring_16 ⟨Nat.le_of_ble_eq_true rfl, Nat.le_of_ble_eq_true rfl⟩ ⟨Nat.le_of_ble_eq_true rfl, Nat.le_of_ble_eq_true rfl⟩ (fun c1 => ?_) (fun c1 => ?_)
  · have hf := it_t c1 hf
    obtain rfl := so_i hf
    exact ⟨rfl, rfl⟩
  have hf := it_f c1 hf
  refine lv_iload_n hx hb dX4_spring_19 rfl (lv_at hl 2 rfl) ?_
  refine lv_iconst (v := 0) hx hb dX4_spring_20 (by decide) ?_
  refine lv_bipush (v := 40) hx hb dX4_spring_21 (by decide) ?_
  obtain ⟨t2, ht2, hf⟩ := bd_o hf
  refine k4_isWithin X.1 hl.1 qX4_45 ⟨Nat.le_of_ble_eq_true rfl, Nat.le_of_ble_eq_true rfl⟩ ht2 (Nat.le_of_ble_eq_true rfl) dX4_spring_23 ⟨Nat.le_of_ble_eq_true rfl, Nat.le_of_ble_eq_true rfl⟩ ?_
  refine rq_2 X hl0 hZ hH hl.1 qX4_49 ⟨Nat.le_of_ble_eq_true rfl, Nat.le_of_ble_eq_true rfl⟩ dX4_spring_26 ⟨Nat.le_of_ble_eq_true rfl, Nat.le_of_ble_eq_true rfl⟩ ⟨Nat.le_of_ble_eq_true rfl, Nat.le_of_ble_eq_true rfl⟩ (fun c3 => ?_) (fun c3 => ?_)
  · have hf := it_t c3 hf
    obtain rfl := so_i hf
    exact ⟨rfl, rfl⟩
  have hf := it_f c3 hf
  refine lv_aload_n hx hb dX4_spring_29 rfl (lv_at hl 0 rfl) ?_
  refine cr_gRa X hH.1 (i := 0) (v := .ref (ad (15 * 0))) (by decide) gfX4_10 rfl dX4_spring_30 ?_
  refine cr_gSt X (k := 0) (by omega) rfl hH.1 (i := 1) (v := .ref (ad (15 * 0 + 2))) (by decide) gfX4_60 rfl dX4_spring_33 ?_
  refine lv_iload_n hx hb dX4_spring_36 rfl (lv_at hl 1 rfl) ?_
  obtain ⟨hi4, hf⟩ := gd_o hf
  refine cr_ld2 X (k := 0) (by omega) rfl hH.1 hi4 dX4_spring_37 ?_
  refine lv_istore_n (lv' := [(3, .int (mu 0 (30 + Int32.toNatClampNeg x1))), (0, .ref (ad 150)), (1, .int x1), (2, .int x2)]) hx hb dX4_spring_38 rfl hl (by decide) rfl (fun ls hl => ?_)
  refine lv_iload_n hx hb dX4_spring_39 rfl (lv_at hl 3 rfl) ?_
  refine lv_if_eq (tgt := 58) hx hb dX4_spring_40 (by decide) (fun c5 => ?_) (fun c5 => ?_)
  · have hf := it_t c5 hf
    exact w4_spring_58 X hI hl0 hZ hH (lv_sub hl [1, 2, 3, 0] rfl) hf
  · have hf := it_f c5 hf
    refine lv_iload_n hx hb dX4_spring_43 rfl (lv_at hl 0 rfl) ?_
    refine lv_if_ne (tgt := 58) hx hb dX4_spring_44 (by decide) (fun c6 => ?_) (fun c6 => ?_)
    · have hf := it_f c6 hf
      exact w4_spring_58 X hI hl0 hZ hH (lv_sub hl [1, 2, 3, 0] rfl) hf
    · have hf := it_t c6 hf
      refine lv_aload_n hx hb dX4_spring_47 rfl (lv_at hl 1 rfl) ?_
      refine cr_gRa X hH.1 (i := 0) (v := .ref (ad (15 * 0))) (by decide) gfX4_10 rfl dX4_spring_48 ?_
      obtain ⟨t7, ht7, hf⟩ := bd_o hf
      refine k3_switchCount X (k := 0) (by omega) rfl hH.1 hl.1 qX4_63 ⟨Nat.le_of_ble_eq_true rfl, Nat.le_of_ble_eq_true rfl⟩ ht7 (Nat.le_of_ble_eq_true rfl) dX4_spring_51 ⟨Nat.le_of_ble_eq_true rfl, Nat.le_of_ble_eq_true rfl⟩ ?_
      refine lv_iconst (v := 4) hx hb dX4_spring_54 (by decide) ?_
      refine lv_icmp_ge (tgt := 62) hx hb dX4_spring_55 (by decide) (fun c8 => ?_) (fun c8 => ?_)
      · have hf := it_t c8 hf
        refine lv_iconst (v := 0) hx hb dX4_spring_62 (by decide) ?_
        exact w4_spring_63 X hI hl0 hZ hH (lv_sub hl [1, 2, 3, 0] rfl) hf
      · have hf := it_f c8 hf
        exact w4_spring_58 X hI hl0 hZ hH (lv_sub hl [1, 2, 3, 0] rfl) hf
def f4_spring_15 (x1 : Int32) (x2 : Int32) (mu : Nat → Nat → Int32) : Option (Int32 × Int32 × (Nat → Nat → Int32)) := f4_spring_16 x1 x2 0 mu
set_option maxRecDepth 100000 in
set_option maxHeartbeats 4000000 in
theorem w4_spring_15 {p : Program} {l : Launch} {e : Env} {s : State} {m : MethodId} {args : Array Value} {below : List Frame} {meth : Method} {c : Code} {D : va_G} {Y : cYt} {ad : Nat → Nat} {mu : Nat → Nat → Int32} (X : cX D Y p s m args meth c cX4_spring 4 RX4 (some .int)) (hI : cInj ad) (hl0 : l.stackTraces = false) (hZ : c.exceptionTable.toList = [] ∧ zx (cA ad s.heap.size) s)  {x1 : Int32} {x2 : Int32} {t : Int32 × Int32 × (Nat → Nat → Int32)}  {H : Heap} {locs : List Loc} (hH : cH D Y ad mu s H locs) {ls : Array Slot} (hl : lv_has ls 4 [(0, .ref (ad 150)), (1, .int x1), (2, .int x2)]) (hf : f4_spring_15 x1 x2 mu = some t) : W p l e rm4_spring s m args below meth c H locs 0 0 (vx_MQ below (va_Qi (fun (r9 : Int32) (_ : Unit) => r9 = t.2.1 ∧ t.1 = 0) (fun _ t9 => cB D Y ad t.2.2 t9) (cA ad s.heap.size)) (vx_X (fun (_ : Unit) => ¬ t.1 = 0) (fun E _ t9 => E = xn t.1 ∧ cB D Y ad t.2.2 t9) (cA ad s.heap.size)) args s 3 18 (cA ad s.heap.size)) (F0 m 15 ls []) := by
  obtain ⟨⟨hx, hb, hml, hown, hts⟩, hr, hlk, hK⟩ := id X
  replace hf : (f4_spring_16 x1 x2 0 mu) = some t := hf
  refine lv_iconst (v := 0) hx hb dX4_spring_15 (by decide) ?_
  exact w4_spring_16 X hI hl0 hZ hH (lv_sub hl [0, 1, 2] rfl) hf
def f4_spring_0 (x1 : Int32) (x2 : Int32) (mu : Nat → Nat → Int32) : Option (Int32 × Int32 × (Nat → Nat → Int32)) := if x1 < 1 then (f4_spring_15 x1 x2 mu) else (if 30 ≤ x1 then (f4_spring_15 x1 x2 mu) else (f4_spring_16 x1 x2 1 mu))
set_option maxRecDepth 100000 in
set_option maxHeartbeats 4000000 in
theorem w4_spring_0 {p : Program} {l : Launch} {e : Env} {s : State} {m : MethodId} {args : Array Value} {below : List Frame} {meth : Method} {c : Code} {D : va_G} {Y : cYt} {ad : Nat → Nat} {mu : Nat → Nat → Int32} (X : cX D Y p s m args meth c cX4_spring 4 RX4 (some .int)) (hI : cInj ad) (hl0 : l.stackTraces = false) (hZ : c.exceptionTable.toList = [] ∧ zx (cA ad s.heap.size) s)  {x1 : Int32} {x2 : Int32} {t : Int32 × Int32 × (Nat → Nat → Int32)}  {H : Heap} {locs : List Loc} (hH : cH D Y ad mu s H locs) {ls : Array Slot} (hl : lv_has ls 4 [(0, .ref (ad 150)), (1, .int x1), (2, .int x2)]) (hf : f4_spring_0 x1 x2 mu = some t) : W p l e rm4_spring s m args below meth c H locs 0 0 (vx_MQ below (va_Qi (fun (r9 : Int32) (_ : Unit) => r9 = t.2.1 ∧ t.1 = 0) (fun _ t9 => cB D Y ad t.2.2 t9) (cA ad s.heap.size)) (vx_X (fun (_ : Unit) => ¬ t.1 = 0) (fun E _ t9 => E = xn t.1 ∧ cB D Y ad t.2.2 t9) (cA ad s.heap.size)) args s 3 18 (cA ad s.heap.size)) (F0 m 0 ls []) := by
  obtain ⟨⟨hx, hb, hml, hown, hts⟩, hr, hlk, hK⟩ := id X
  replace hf : (if x1 < 1 then (f4_spring_15 x1 x2 mu) else (if 30 ≤ x1 then (f4_spring_15 x1 x2 mu) else (f4_spring_16 x1 x2 1 mu))) = some t := hf
  refine lv_iload_n hx hb dX4_spring_0 rfl (lv_at hl 1 rfl) ?_
  refine lv_iconst (v := 1) hx hb dX4_spring_1 (by decide) ?_
  refine lv_icmp_lt (tgt := 15) hx hb dX4_spring_2 (by decide) (fun c1 => ?_) (fun c1 => ?_)
  · have hf := it_t c1 hf
    exact w4_spring_15 X hI hl0 hZ hH (lv_sub hl [0, 1, 2] rfl) hf
  · have hf := it_f c1 hf
    refine lv_iload_n hx hb dX4_spring_5 rfl (lv_at hl 1 rfl) ?_
    refine lv_bipush (v := 30) hx hb dX4_spring_6 (by decide) ?_
    refine lv_icmp_ge (tgt := 15) hx hb dX4_spring_8 (by decide) (fun c2 => ?_) (fun c2 => ?_)
    · have hf := it_t c2 hf
      exact w4_spring_15 X hI hl0 hZ hH (lv_sub hl [0, 1, 2] rfl) hf
    · have hf := it_f c2 hf
      refine lv_iconst (v := 1) hx hb dX4_spring_11 (by decide) ?_
      refine lv_goto (tgt := 16) hx hb dX4_spring_12 (by decide) ?_
      exact w4_spring_16 X hI hl0 hZ hH (lv_sub hl [0, 1, 2] rfl) hf
set_option maxRecDepth 100000 in
set_option maxHeartbeats 4000000 in
theorem c4_spring (l : Launch) {D : va_G} {Y : cYt} {ad : Nat → Nat} {mu : Nat → Nat → Int32} (hI : cInj ad) (hl0 : l.stackTraces = false) (sz : Nat) (x1 : Int32) (x2 : Int32) {t : Int32 × Int32 × (Nat → Nat → Int32)} (hf : f4_spring_0 x1 x2 mu = some t) : vx_Met l yX4_spring uX4_spring rm4_spring (va_Pc [.ref (ad 150), .int x1, .int x2] (fun U => U.heap.size = sz ∧ zx (cA ad sz) U ∧ cB D Y ad mu U)) (va_Qi (fun (r9 : Int32) (_ : Unit) => r9 = t.2.1 ∧ t.1 = 0) (fun _ t9 => cB D Y ad t.2.2 t9) (cA ad sz)) (vx_X (fun (_ : Unit) => ¬ t.1 = 0) (fun E _ t9 => E = xn t.1 ∧ cB D Y ad t.2.2 t9) (cA ad sz)) 3 18 (cA ad sz) := by
  refine vx_ofW (cc := cX4_spring) (maxL := 4) (ret := (some .int)) (by decide) rfl ?_
  intro p e s m args below meth c s₁ B hml hx0 hv
  obtain ⟨rfl, hsz, hz, hP, hK⟩ := hv
  subst hsz
  have X : cX D Y p s m ([.ref (ad 150), .int x1, .int x2] : List Value).toArray meth c cX4_spring 4 RX4 (some .int) := ⟨⟨B.exec, B.bytes, hml, findClass_of_methodNamed B.named, fun w h => atoms_spec (ws := uX4_spring) B.pre w (List.mem_cons_of_mem _ h)⟩, B.returns, B.notSynchronized, hK⟩
  have hl := lv_entry ([.ref (ad 150), .int x1, .int x2]) (n := 4) (Nat.le_of_ble_eq_true rfl)
  rw [lg_entry_eq]
  generalize (lg_sl ([.ref (ad 150), .int x1, .int x2]) ++ List.replicate (4 - (lg_sl ([.ref (ad 150), .int x1, .int x2])).length) Slot.unset).toArray = ls at hl ⊢
  have hl : lv_has ls 4 [(0, .ref (ad 150)), (1, .int x1), (2, .int x2)] := hl
  exact w4_spring_0 X hI hl0 ⟨List.eq_nil_iff_forall_not_mem.mpr (fun x h => hx0 x h), hz⟩ ⟨hP, va_S.rf⟩ (lv_sub hl [0, 1, 2] rfl) hf
/-! OreRailway.car()I -/
def rm4_car : Room := { frames := 7, cells := 1, slots := 6, locals := 110 }
def f4_car_17 (y0 : Int32) (mu : Nat → Nat → Int32) : Option (Int32 × Int32 × (Nat → Nat → Int32)) := if y0 = 0 then (some (3, 0, mu)) else (Option.bind (f1_push_0 mu) (fun t2 => Option.bind (f3_addCar_0 (t2 0)) (fun t3 => some (0, t3.1, s1 t2 0 t3.2))))
set_option maxRecDepth 100000 in
set_option maxHeartbeats 4000000 in
theorem w4_car_17 {p : Program} {l : Launch} {e : Env} {s : State} {m : MethodId} {args : Array Value} {below : List Frame} {meth : Method} {c : Code} {D : va_G} {Y : cYt} {ad : Nat → Nat} {mu : Nat → Nat → Int32} (X : cX D Y p s m args meth c cX4_car 1 RX4 (some .int)) (hI : cInj ad) (hl0 : l.stackTraces = false) (hZ : c.exceptionTable.toList = [] ∧ zx (cA ad s.heap.size) s)  {y0 : Int32} {t : Int32 × Int32 × (Nat → Nat → Int32)}  {H : Heap} {locs : List Loc} (hH : cH D Y ad mu s H locs) {ls : Array Slot} (hl : lv_has ls 1 [(0, .ref (ad 150))]) (hf : f4_car_17 y0 mu = some t) : W p l e rm4_car s m args below meth c H locs 0 0 (vx_MQ below (va_Qi (fun (r9 : Int32) (_ : Unit) => r9 = t.2.1 ∧ t.1 = 0) (fun _ t9 => cB D Y ad t.2.2 t9) (cA ad s.heap.size)) (vx_X (fun (_ : Unit) => ¬ t.1 = 0) (fun E _ t9 => E = xn t.1 ∧ cB D Y ad t.2.2 t9) (cA ad s.heap.size)) args s 1 6 (cA ad s.heap.size)) (F0 m 17 ls [.int y0]) := by
  obtain ⟨⟨hx, hb, hml, hown, hts⟩, hr, hlk, hK⟩ := id X
  replace hf : (if y0 = 0 then (some (3, 0, mu)) else (Option.bind (f1_push_0 mu) (fun t2 => Option.bind (f3_addCar_0 (t2 0)) (fun t3 => some (0, t3.1, s1 t2 0 t3.2))))) = some t := hf
  refine rq_3 X hl0 hZ hH hl.1 qX4_67 ⟨Nat.le_of_ble_eq_true rfl, Nat.le_of_ble_eq_true rfl⟩ dX4_car_17 ⟨Nat.le_of_ble_eq_true rfl, Nat.le_of_ble_eq_true rfl⟩ ⟨Nat.le_of_ble_eq_true rfl, Nat.le_of_ble_eq_true rfl⟩ (fun c1 => ?_) (fun c1 => ?_)
  · have hf := it_t c1 hf
    obtain rfl := so_i hf
    exact ⟨rfl, rfl⟩
  have hf := it_f c1 hf
  refine lv_aload_n hx hb dX4_car_20 rfl (lv_at hl 0 rfl) ?_
  refine cr_gRa X hH.1 (i := 2) (v := .ref (ad 151)) (by decide) gfX4_22 rfl dX4_car_21 ?_
  refine lv_aload_n hx hb dX4_car_24 rfl (lv_at hl 0 rfl) ?_
  refine cr_gRa X hH.1 (i := 0) (v := .ref (ad (15 * 0))) (by decide) gfX4_10 rfl dX4_car_25 ?_
  obtain ⟨t2, ht2, hf⟩ := bd_o hf
  refine k1_push X hI hH hl.1 qX4_52 ⟨Nat.le_of_ble_eq_true rfl, Nat.le_of_ble_eq_true rfl⟩ ht2 (Nat.le_of_ble_eq_true rfl) dX4_car_28 ⟨Nat.le_of_ble_eq_true rfl, Nat.le_of_ble_eq_true rfl⟩ (fun H locs hH => ?_)
  refine lv_aload_n hx hb dX4_car_31 rfl (lv_at hl 0 rfl) ?_
  refine cr_gRa X hH.1 (i := 0) (v := .ref (ad (15 * 0))) (by decide) gfX4_10 rfl dX4_car_32 ?_
  obtain ⟨t3, ht3, hf⟩ := bd_o hf
  refine km3_addCar X hI (k := 0) (by omega) hH hl.1 qX4_74 ⟨Nat.le_of_ble_eq_true rfl, Nat.le_of_ble_eq_true rfl⟩ ht3 (Nat.le_of_ble_eq_true rfl) dX4_car_35 ⟨Nat.le_of_ble_eq_true rfl, Nat.le_of_ble_eq_true rfl⟩ (fun H locs hH => ?_)
  obtain rfl := so_i hf
  exact cx_iw X hH rfl rfl (Nat.le_of_ble_eq_true rfl) (Nat.le_of_ble_eq_true rfl) dX4_car_38
def f4_car_0 (mu : Nat → Nat → Int32) : Option (Int32 × Int32 × (Nat → Nat → Int32)) := if 8 ≤ (mu 0 162) then (f4_car_17 0 mu) else (f4_car_17 1 mu)
set_option maxRecDepth 100000 in
set_option maxHeartbeats 4000000 in
theorem w4_car_0 {p : Program} {l : Launch} {e : Env} {s : State} {m : MethodId} {args : Array Value} {below : List Frame} {meth : Method} {c : Code} {D : va_G} {Y : cYt} {ad : Nat → Nat} {mu : Nat → Nat → Int32} (X : cX D Y p s m args meth c cX4_car 1 RX4 (some .int)) (hI : cInj ad) (hl0 : l.stackTraces = false) (hZ : c.exceptionTable.toList = [] ∧ zx (cA ad s.heap.size) s)  {t : Int32 × Int32 × (Nat → Nat → Int32)}  {H : Heap} {locs : List Loc} (hH : cH D Y ad mu s H locs) {ls : Array Slot} (hl : lv_has ls 1 [(0, .ref (ad 150))]) (hf : f4_car_0 mu = some t) : W p l e rm4_car s m args below meth c H locs 0 0 (vx_MQ below (va_Qi (fun (r9 : Int32) (_ : Unit) => r9 = t.2.1 ∧ t.1 = 0) (fun _ t9 => cB D Y ad t.2.2 t9) (cA ad s.heap.size)) (vx_X (fun (_ : Unit) => ¬ t.1 = 0) (fun E _ t9 => E = xn t.1 ∧ cB D Y ad t.2.2 t9) (cA ad s.heap.size)) args s 1 6 (cA ad s.heap.size)) (F0 m 0 ls []) := by
  obtain ⟨⟨hx, hb, hml, hown, hts⟩, hr, hlk, hK⟩ := id X
  replace hf : (if 8 ≤ (mu 0 162) then (f4_car_17 0 mu) else (f4_car_17 1 mu)) = some t := hf
  refine lv_aload_n hx hb dX4_car_0 rfl (lv_at hl 0 rfl) ?_
  refine cr_gRa X hH.1 (i := 0) (v := .ref (ad (15 * 0))) (by decide) gfX4_10 rfl dX4_car_1 ?_
  refine cr_gSt X (k := 0) (by omega) rfl hH.1 (i := 6) (v := .int (mu 0 162)) (by decide) gfX4_70 rfl dX4_car_4 ?_
  refine lv_bipush (v := 8) hx hb dX4_car_7 (by decide) ?_
  refine lv_icmp_ge (tgt := 16) hx hb dX4_car_9 (by decide) (fun c1 => ?_) (fun c1 => ?_)
  · have hf := it_t c1 hf
    refine lv_iconst (v := 0) hx hb dX4_car_16 (by decide) ?_
    exact w4_car_17 X hI hl0 hZ hH (lv_sub hl [0] rfl) hf
  · have hf := it_f c1 hf
    refine lv_iconst (v := 1) hx hb dX4_car_12 (by decide) ?_
    refine lv_goto (tgt := 17) hx hb dX4_car_13 (by decide) ?_
    exact w4_car_17 X hI hl0 hZ hH (lv_sub hl [0] rfl) hf
set_option maxRecDepth 100000 in
set_option maxHeartbeats 4000000 in
theorem c4_car (l : Launch) {D : va_G} {Y : cYt} {ad : Nat → Nat} {mu : Nat → Nat → Int32} (hI : cInj ad) (hl0 : l.stackTraces = false) (sz : Nat) {t : Int32 × Int32 × (Nat → Nat → Int32)} (hf : f4_car_0 mu = some t) : vx_Met l yX4_car uX4_car rm4_car (va_Pc [.ref (ad 150)] (fun U => U.heap.size = sz ∧ zx (cA ad sz) U ∧ cB D Y ad mu U)) (va_Qi (fun (r9 : Int32) (_ : Unit) => r9 = t.2.1 ∧ t.1 = 0) (fun _ t9 => cB D Y ad t.2.2 t9) (cA ad sz)) (vx_X (fun (_ : Unit) => ¬ t.1 = 0) (fun E _ t9 => E = xn t.1 ∧ cB D Y ad t.2.2 t9) (cA ad sz)) 1 6 (cA ad sz) := by
  refine vx_ofW (cc := cX4_car) (maxL := 1) (ret := (some .int)) (by decide) rfl ?_
  intro p e s m args below meth c s₁ B hml hx0 hv
  obtain ⟨rfl, hsz, hz, hP, hK⟩ := hv
  subst hsz
  have X : cX D Y p s m ([.ref (ad 150)] : List Value).toArray meth c cX4_car 1 RX4 (some .int) := ⟨⟨B.exec, B.bytes, hml, findClass_of_methodNamed B.named, fun w h => atoms_spec (ws := uX4_car) B.pre w (List.mem_cons_of_mem _ h)⟩, B.returns, B.notSynchronized, hK⟩
  have hl := lv_entry ([.ref (ad 150)]) (n := 1) (Nat.le_of_ble_eq_true rfl)
  rw [lg_entry_eq]
  generalize (lg_sl ([.ref (ad 150)]) ++ List.replicate (1 - (lg_sl ([.ref (ad 150)])).length) Slot.unset).toArray = ls at hl ⊢
  have hl : lv_has ls 1 [(0, .ref (ad 150))] := hl
  exact w4_car_0 X hI hl0 ⟨List.eq_nil_iff_forall_not_mem.mpr (fun x h => hx0 x h), hz⟩ ⟨hP, va_S.rf⟩ (lv_sub hl [0] rfl) hf
/-! OreRailway.load(II)I -/
def rm4_load : Room := { frames := 7, cells := 3, slots := 18, locals := 110 }
def f4_load_0 (x1 : Int32) (x2 : Int32) (mu : Nat → Nat → Int32) : Option (Int32 × Int32 × (Nat → Nat → Int32)) := Option.bind (f3_hasCar_0 (mu 0) x1) (fun t1 => if t1 = 0 then (some (1, 0, mu)) else (Option.bind (f4_isWithin_0 x2 1 20) (fun t3 => if t3 = 0 then (some (2, 0, mu)) else (Option.bind (f3_canLoad_0 (mu 0) x1 x2) (fun t5 => if t5 = 0 then (some (3, 0, mu)) else (Option.bind (f1_push_0 mu) (fun t7 => Option.bind (f3_addOre_0 x1 x2 (t7 0)) (fun t8 => some (0, t8.1, s1 t7 0 t8.2)))))))))
set_option maxRecDepth 100000 in
set_option maxHeartbeats 4000000 in
theorem w4_load_0 {p : Program} {l : Launch} {e : Env} {s : State} {m : MethodId} {args : Array Value} {below : List Frame} {meth : Method} {c : Code} {D : va_G} {Y : cYt} {ad : Nat → Nat} {mu : Nat → Nat → Int32} (X : cX D Y p s m args meth c cX4_load 3 RX4 (some .int)) (hI : cInj ad) (hl0 : l.stackTraces = false) (hZ : c.exceptionTable.toList = [] ∧ zx (cA ad s.heap.size) s)  {x1 : Int32} {x2 : Int32} {t : Int32 × Int32 × (Nat → Nat → Int32)}  {H : Heap} {locs : List Loc} (hH : cH D Y ad mu s H locs) {ls : Array Slot} (hl : lv_has ls 3 [(0, .ref (ad 150)), (1, .int x1), (2, .int x2)]) (hf : f4_load_0 x1 x2 mu = some t) : W p l e rm4_load s m args below meth c H locs 0 0 (vx_MQ below (va_Qi (fun (r9 : Int32) (_ : Unit) => r9 = t.2.1 ∧ t.1 = 0) (fun _ t9 => cB D Y ad t.2.2 t9) (cA ad s.heap.size)) (vx_X (fun (_ : Unit) => ¬ t.1 = 0) (fun E _ t9 => E = xn t.1 ∧ cB D Y ad t.2.2 t9) (cA ad s.heap.size)) args s 3 18 (cA ad s.heap.size)) (F0 m 0 ls []) := by
  obtain ⟨⟨hx, hb, hml, hown, hts⟩, hr, hlk, hK⟩ := id X
  replace hf : (Option.bind (f3_hasCar_0 (mu 0) x1) (fun t1 => if t1 = 0 then (some (1, 0, mu)) else (Option.bind (f4_isWithin_0 x2 1 20) (fun t3 => if t3 = 0 then (some (2, 0, mu)) else (Option.bind (f3_canLoad_0 (mu 0) x1 x2) (fun t5 => if t5 = 0 then (some (3, 0, mu)) else (Option.bind (f1_push_0 mu) (fun t7 => Option.bind (f3_addOre_0 x1 x2 (t7 0)) (fun t8 => some (0, t8.1, s1 t7 0 t8.2)))))))))) = some t := hf
  refine lv_aload_n hx hb dX4_load_0 rfl (lv_at hl 0 rfl) ?_
  refine cr_gRa X hH.1 (i := 0) (v := .ref (ad (15 * 0))) (by decide) gfX4_10 rfl dX4_load_1 ?_
  refine lv_iload_n hx hb dX4_load_4 rfl (lv_at hl 1 rfl) ?_
  obtain ⟨t1, ht1, hf⟩ := bd_o hf
  refine k3_hasCar X (k := 0) (by omega) rfl hH.1 hl.1 qX4_77 ⟨Nat.le_of_ble_eq_true rfl, Nat.le_of_ble_eq_true rfl⟩ ht1 (Nat.le_of_ble_eq_true rfl) dX4_load_5 ⟨Nat.le_of_ble_eq_true rfl, Nat.le_of_ble_eq_true rfl⟩ ?_
  refine rq_1 X hl0 hZ hH hl.1 qX4_41 ⟨Nat.le_of_ble_eq_true rfl, Nat.le_of_ble_eq_true rfl⟩ dX4_load_8 ⟨Nat.le_of_ble_eq_true rfl, Nat.le_of_ble_eq_true rfl⟩ ⟨Nat.le_of_ble_eq_true rfl, Nat.le_of_ble_eq_true rfl⟩ (fun c2 => ?_) (fun c2 => ?_)
  · have hf := it_t c2 hf
    obtain rfl := so_i hf
    exact ⟨rfl, rfl⟩
  have hf := it_f c2 hf
  refine lv_iload_n hx hb dX4_load_11 rfl (lv_at hl 2 rfl) ?_
  refine lv_iconst (v := 1) hx hb dX4_load_12 (by decide) ?_
  refine lv_bipush (v := 20) hx hb dX4_load_13 (by decide) ?_
  obtain ⟨t3, ht3, hf⟩ := bd_o hf
  refine k4_isWithin X.1 hl.1 qX4_45 ⟨Nat.le_of_ble_eq_true rfl, Nat.le_of_ble_eq_true rfl⟩ ht3 (Nat.le_of_ble_eq_true rfl) dX4_load_15 ⟨Nat.le_of_ble_eq_true rfl, Nat.le_of_ble_eq_true rfl⟩ ?_
  refine rq_2 X hl0 hZ hH hl.1 qX4_49 ⟨Nat.le_of_ble_eq_true rfl, Nat.le_of_ble_eq_true rfl⟩ dX4_load_18 ⟨Nat.le_of_ble_eq_true rfl, Nat.le_of_ble_eq_true rfl⟩ ⟨Nat.le_of_ble_eq_true rfl, Nat.le_of_ble_eq_true rfl⟩ (fun c4 => ?_) (fun c4 => ?_)
  · have hf := it_t c4 hf
    obtain rfl := so_i hf
    exact ⟨rfl, rfl⟩
  have hf := it_f c4 hf
  refine lv_aload_n hx hb dX4_load_21 rfl (lv_at hl 0 rfl) ?_
  refine cr_gRa X hH.1 (i := 0) (v := .ref (ad (15 * 0))) (by decide) gfX4_10 rfl dX4_load_22 ?_
  refine lv_iload_n hx hb dX4_load_25 rfl (lv_at hl 1 rfl) ?_
  refine lv_iload_n hx hb dX4_load_26 rfl (lv_at hl 2 rfl) ?_
  obtain ⟨t5, ht5, hf⟩ := bd_o hf
  refine k3_canLoad X (k := 0) (by omega) rfl hH.1 hl.1 qX4_81 ⟨Nat.le_of_ble_eq_true rfl, Nat.le_of_ble_eq_true rfl⟩ ht5 (Nat.le_of_ble_eq_true rfl) dX4_load_27 ⟨Nat.le_of_ble_eq_true rfl, Nat.le_of_ble_eq_true rfl⟩ ?_
  refine rq_3 X hl0 hZ hH hl.1 qX4_67 ⟨Nat.le_of_ble_eq_true rfl, Nat.le_of_ble_eq_true rfl⟩ dX4_load_30 ⟨Nat.le_of_ble_eq_true rfl, Nat.le_of_ble_eq_true rfl⟩ ⟨Nat.le_of_ble_eq_true rfl, Nat.le_of_ble_eq_true rfl⟩ (fun c6 => ?_) (fun c6 => ?_)
  · have hf := it_t c6 hf
    obtain rfl := so_i hf
    exact ⟨rfl, rfl⟩
  have hf := it_f c6 hf
  refine lv_aload_n hx hb dX4_load_33 rfl (lv_at hl 0 rfl) ?_
  refine cr_gRa X hH.1 (i := 2) (v := .ref (ad 151)) (by decide) gfX4_22 rfl dX4_load_34 ?_
  refine lv_aload_n hx hb dX4_load_37 rfl (lv_at hl 0 rfl) ?_
  refine cr_gRa X hH.1 (i := 0) (v := .ref (ad (15 * 0))) (by decide) gfX4_10 rfl dX4_load_38 ?_
  obtain ⟨t7, ht7, hf⟩ := bd_o hf
  refine k1_push X hI hH hl.1 qX4_52 ⟨Nat.le_of_ble_eq_true rfl, Nat.le_of_ble_eq_true rfl⟩ ht7 (Nat.le_of_ble_eq_true rfl) dX4_load_41 ⟨Nat.le_of_ble_eq_true rfl, Nat.le_of_ble_eq_true rfl⟩ (fun H locs hH => ?_)
  refine lv_aload_n hx hb dX4_load_44 rfl (lv_at hl 0 rfl) ?_
  refine cr_gRa X hH.1 (i := 0) (v := .ref (ad (15 * 0))) (by decide) gfX4_10 rfl dX4_load_45 ?_
  refine lv_iload_n hx hb dX4_load_48 rfl (lv_at hl 1 rfl) ?_
  refine lv_iload_n hx hb dX4_load_49 rfl (lv_at hl 2 rfl) ?_
  obtain ⟨t8, ht8, hf⟩ := bd_o hf
  refine km3_addOre X hI (k := 0) (by omega) hH hl.1 qX4_85 ⟨Nat.le_of_ble_eq_true rfl, Nat.le_of_ble_eq_true rfl⟩ ht8 (Nat.le_of_ble_eq_true rfl) dX4_load_50 ⟨Nat.le_of_ble_eq_true rfl, Nat.le_of_ble_eq_true rfl⟩ (fun H locs hH => ?_)
  obtain rfl := so_i hf
  exact cx_iw X hH rfl rfl (Nat.le_of_ble_eq_true rfl) (Nat.le_of_ble_eq_true rfl) dX4_load_53
set_option maxRecDepth 100000 in
set_option maxHeartbeats 4000000 in
theorem c4_load (l : Launch) {D : va_G} {Y : cYt} {ad : Nat → Nat} {mu : Nat → Nat → Int32} (hI : cInj ad) (hl0 : l.stackTraces = false) (sz : Nat) (x1 : Int32) (x2 : Int32) {t : Int32 × Int32 × (Nat → Nat → Int32)} (hf : f4_load_0 x1 x2 mu = some t) : vx_Met l yX4_load uX4_load rm4_load (va_Pc [.ref (ad 150), .int x1, .int x2] (fun U => U.heap.size = sz ∧ zx (cA ad sz) U ∧ cB D Y ad mu U)) (va_Qi (fun (r9 : Int32) (_ : Unit) => r9 = t.2.1 ∧ t.1 = 0) (fun _ t9 => cB D Y ad t.2.2 t9) (cA ad sz)) (vx_X (fun (_ : Unit) => ¬ t.1 = 0) (fun E _ t9 => E = xn t.1 ∧ cB D Y ad t.2.2 t9) (cA ad sz)) 3 18 (cA ad sz) := by
  refine vx_ofW (cc := cX4_load) (maxL := 3) (ret := (some .int)) (by decide) rfl ?_
  intro p e s m args below meth c s₁ B hml hx0 hv
  obtain ⟨rfl, hsz, hz, hP, hK⟩ := hv
  subst hsz
  have X : cX D Y p s m ([.ref (ad 150), .int x1, .int x2] : List Value).toArray meth c cX4_load 3 RX4 (some .int) := ⟨⟨B.exec, B.bytes, hml, findClass_of_methodNamed B.named, fun w h => atoms_spec (ws := uX4_load) B.pre w (List.mem_cons_of_mem _ h)⟩, B.returns, B.notSynchronized, hK⟩
  have hl := lv_entry ([.ref (ad 150), .int x1, .int x2]) (n := 3) (Nat.le_of_ble_eq_true rfl)
  rw [lg_entry_eq]
  generalize (lg_sl ([.ref (ad 150), .int x1, .int x2]) ++ List.replicate (3 - (lg_sl ([.ref (ad 150), .int x1, .int x2])).length) Slot.unset).toArray = ls at hl ⊢
  have hl : lv_has ls 3 [(0, .ref (ad 150)), (1, .int x1), (2, .int x2)] := hl
  exact w4_load_0 X hI hl0 ⟨List.eq_nil_iff_forall_not_mem.mpr (fun x h => hx0 x h), hz⟩ ⟨hP, va_S.rf⟩ (lv_sub hl [0, 1, 2] rfl) hf
/-! OreRailway.release(II)I -/
def rm4_release : Room := { frames := 7, cells := 2, slots := 12, locals := 110 }
def f4_release_0 (x1 : Int32) (x2 : Int32) (mu : Nat → Nat → Int32) : Option (Int32 × Int32 × (Nat → Nat → Int32)) := Option.bind (f3_hasCar_0 (mu 0) x1) (fun t1 => if t1 = 0 then (some (1, 0, mu)) else (Option.bind (f4_isWithin_0 x2 0 9) (fun t3 => if t3 = 0 then (some (2, 0, mu)) else (Option.bind (f1_push_0 mu) (fun t5 => Option.bind (f3_letRoll_0 x1 x2 (t5 0)) (fun t6 => some (0, t6.1, s1 t5 0 t6.2)))))))
set_option maxRecDepth 100000 in
set_option maxHeartbeats 4000000 in
theorem w4_release_0 {p : Program} {l : Launch} {e : Env} {s : State} {m : MethodId} {args : Array Value} {below : List Frame} {meth : Method} {c : Code} {D : va_G} {Y : cYt} {ad : Nat → Nat} {mu : Nat → Nat → Int32} (X : cX D Y p s m args meth c cX4_release 3 RX4 (some .int)) (hI : cInj ad) (hl0 : l.stackTraces = false) (hZ : c.exceptionTable.toList = [] ∧ zx (cA ad s.heap.size) s)  {x1 : Int32} {x2 : Int32} {t : Int32 × Int32 × (Nat → Nat → Int32)}  {H : Heap} {locs : List Loc} (hH : cH D Y ad mu s H locs) {ls : Array Slot} (hl : lv_has ls 3 [(0, .ref (ad 150)), (1, .int x1), (2, .int x2)]) (hf : f4_release_0 x1 x2 mu = some t) : W p l e rm4_release s m args below meth c H locs 0 0 (vx_MQ below (va_Qi (fun (r9 : Int32) (_ : Unit) => r9 = t.2.1 ∧ t.1 = 0) (fun _ t9 => cB D Y ad t.2.2 t9) (cA ad s.heap.size)) (vx_X (fun (_ : Unit) => ¬ t.1 = 0) (fun E _ t9 => E = xn t.1 ∧ cB D Y ad t.2.2 t9) (cA ad s.heap.size)) args s 2 12 (cA ad s.heap.size)) (F0 m 0 ls []) := by
  obtain ⟨⟨hx, hb, hml, hown, hts⟩, hr, hlk, hK⟩ := id X
  replace hf : (Option.bind (f3_hasCar_0 (mu 0) x1) (fun t1 => if t1 = 0 then (some (1, 0, mu)) else (Option.bind (f4_isWithin_0 x2 0 9) (fun t3 => if t3 = 0 then (some (2, 0, mu)) else (Option.bind (f1_push_0 mu) (fun t5 => Option.bind (f3_letRoll_0 x1 x2 (t5 0)) (fun t6 => some (0, t6.1, s1 t5 0 t6.2)))))))) = some t := hf
  refine lv_aload_n hx hb dX4_release_0 rfl (lv_at hl 0 rfl) ?_
  refine cr_gRa X hH.1 (i := 0) (v := .ref (ad (15 * 0))) (by decide) gfX4_10 rfl dX4_release_1 ?_
  refine lv_iload_n hx hb dX4_release_4 rfl (lv_at hl 1 rfl) ?_
  obtain ⟨t1, ht1, hf⟩ := bd_o hf
  refine k3_hasCar X (k := 0) (by omega) rfl hH.1 hl.1 qX4_77 ⟨Nat.le_of_ble_eq_true rfl, Nat.le_of_ble_eq_true rfl⟩ ht1 (Nat.le_of_ble_eq_true rfl) dX4_release_5 ⟨Nat.le_of_ble_eq_true rfl, Nat.le_of_ble_eq_true rfl⟩ ?_
  refine rq_1 X hl0 hZ hH hl.1 qX4_41 ⟨Nat.le_of_ble_eq_true rfl, Nat.le_of_ble_eq_true rfl⟩ dX4_release_8 ⟨Nat.le_of_ble_eq_true rfl, Nat.le_of_ble_eq_true rfl⟩ ⟨Nat.le_of_ble_eq_true rfl, Nat.le_of_ble_eq_true rfl⟩ (fun c2 => ?_) (fun c2 => ?_)
  · have hf := it_t c2 hf
    obtain rfl := so_i hf
    exact ⟨rfl, rfl⟩
  have hf := it_f c2 hf
  refine lv_iload_n hx hb dX4_release_11 rfl (lv_at hl 2 rfl) ?_
  refine lv_iconst (v := 0) hx hb dX4_release_12 (by decide) ?_
  refine lv_bipush (v := 9) hx hb dX4_release_13 (by decide) ?_
  obtain ⟨t3, ht3, hf⟩ := bd_o hf
  refine k4_isWithin X.1 hl.1 qX4_45 ⟨Nat.le_of_ble_eq_true rfl, Nat.le_of_ble_eq_true rfl⟩ ht3 (Nat.le_of_ble_eq_true rfl) dX4_release_15 ⟨Nat.le_of_ble_eq_true rfl, Nat.le_of_ble_eq_true rfl⟩ ?_
  refine rq_2 X hl0 hZ hH hl.1 qX4_49 ⟨Nat.le_of_ble_eq_true rfl, Nat.le_of_ble_eq_true rfl⟩ dX4_release_18 ⟨Nat.le_of_ble_eq_true rfl, Nat.le_of_ble_eq_true rfl⟩ ⟨Nat.le_of_ble_eq_true rfl, Nat.le_of_ble_eq_true rfl⟩ (fun c4 => ?_) (fun c4 => ?_)
  · have hf := it_t c4 hf
    obtain rfl := so_i hf
    exact ⟨rfl, rfl⟩
  have hf := it_f c4 hf
  refine lv_aload_n hx hb dX4_release_21 rfl (lv_at hl 0 rfl) ?_
  refine cr_gRa X hH.1 (i := 2) (v := .ref (ad 151)) (by decide) gfX4_22 rfl dX4_release_22 ?_
  refine lv_aload_n hx hb dX4_release_25 rfl (lv_at hl 0 rfl) ?_
  refine cr_gRa X hH.1 (i := 0) (v := .ref (ad (15 * 0))) (by decide) gfX4_10 rfl dX4_release_26 ?_
  obtain ⟨t5, ht5, hf⟩ := bd_o hf
  refine k1_push X hI hH hl.1 qX4_52 ⟨Nat.le_of_ble_eq_true rfl, Nat.le_of_ble_eq_true rfl⟩ ht5 (Nat.le_of_ble_eq_true rfl) dX4_release_29 ⟨Nat.le_of_ble_eq_true rfl, Nat.le_of_ble_eq_true rfl⟩ (fun H locs hH => ?_)
  refine lv_aload_n hx hb dX4_release_32 rfl (lv_at hl 0 rfl) ?_
  refine cr_gRa X hH.1 (i := 0) (v := .ref (ad (15 * 0))) (by decide) gfX4_10 rfl dX4_release_33 ?_
  refine lv_iload_n hx hb dX4_release_36 rfl (lv_at hl 1 rfl) ?_
  refine lv_iload_n hx hb dX4_release_37 rfl (lv_at hl 2 rfl) ?_
  obtain ⟨t6, ht6, hf⟩ := bd_o hf
  refine km3_letRoll X hI (k := 0) (by omega) hH hl.1 qX4_89 ⟨Nat.le_of_ble_eq_true rfl, Nat.le_of_ble_eq_true rfl⟩ ht6 (Nat.le_of_ble_eq_true rfl) dX4_release_38 ⟨Nat.le_of_ble_eq_true rfl, Nat.le_of_ble_eq_true rfl⟩ (fun H locs hH => ?_)
  obtain rfl := so_i hf
  exact cx_iw X hH rfl rfl (Nat.le_of_ble_eq_true rfl) (Nat.le_of_ble_eq_true rfl) dX4_release_41
set_option maxRecDepth 100000 in
set_option maxHeartbeats 4000000 in
theorem c4_release (l : Launch) {D : va_G} {Y : cYt} {ad : Nat → Nat} {mu : Nat → Nat → Int32} (hI : cInj ad) (hl0 : l.stackTraces = false) (sz : Nat) (x1 : Int32) (x2 : Int32) {t : Int32 × Int32 × (Nat → Nat → Int32)} (hf : f4_release_0 x1 x2 mu = some t) : vx_Met l yX4_release uX4_release rm4_release (va_Pc [.ref (ad 150), .int x1, .int x2] (fun U => U.heap.size = sz ∧ zx (cA ad sz) U ∧ cB D Y ad mu U)) (va_Qi (fun (r9 : Int32) (_ : Unit) => r9 = t.2.1 ∧ t.1 = 0) (fun _ t9 => cB D Y ad t.2.2 t9) (cA ad sz)) (vx_X (fun (_ : Unit) => ¬ t.1 = 0) (fun E _ t9 => E = xn t.1 ∧ cB D Y ad t.2.2 t9) (cA ad sz)) 2 12 (cA ad sz) := by
  refine vx_ofW (cc := cX4_release) (maxL := 3) (ret := (some .int)) (by decide) rfl ?_
  intro p e s m args below meth c s₁ B hml hx0 hv
  obtain ⟨rfl, hsz, hz, hP, hK⟩ := hv
  subst hsz
  have X : cX D Y p s m ([.ref (ad 150), .int x1, .int x2] : List Value).toArray meth c cX4_release 3 RX4 (some .int) := ⟨⟨B.exec, B.bytes, hml, findClass_of_methodNamed B.named, fun w h => atoms_spec (ws := uX4_release) B.pre w (List.mem_cons_of_mem _ h)⟩, B.returns, B.notSynchronized, hK⟩
  have hl := lv_entry ([.ref (ad 150), .int x1, .int x2]) (n := 3) (Nat.le_of_ble_eq_true rfl)
  rw [lg_entry_eq]
  generalize (lg_sl ([.ref (ad 150), .int x1, .int x2]) ++ List.replicate (3 - (lg_sl ([.ref (ad 150), .int x1, .int x2])).length) Slot.unset).toArray = ls at hl ⊢
  have hl : lv_has ls 3 [(0, .ref (ad 150)), (1, .int x1), (2, .int x2)] := hl
  exact w4_release_0 X hI hl0 ⟨List.eq_nil_iff_forall_not_mem.mpr (fun x h => hx0 x h), hz⟩ ⟨hP, va_S.rf⟩ (lv_sub hl [0, 1, 2] rfl) hf
/-! OreRailway.brake(II)I -/
def rm4_brake : Room := { frames := 7, cells := 3, slots := 18, locals := 110 }
def f4_brake_0 (x1 : Int32) (x2 : Int32) (mu : Nat → Nat → Int32) : Option (Int32 × Int32 × (Nat → Nat → Int32)) := Option.bind (f3_hasCar_0 (mu 0) x1) (fun t1 => if t1 = 0 then (some (1, 0, mu)) else (Option.bind (f4_isWithin_0 x2 0 9) (fun t3 => if t3 = 0 then (some (2, 0, mu)) else (Option.bind (f3_isRolling_0 (mu 0) x1) (fun t5 => if t5 = 0 then (some (3, 0, mu)) else (Option.bind (f1_push_0 mu) (fun t7 => Option.bind (f3_changeBrake_0 x1 x2 (t7 0)) (fun t8 => some (0, t8.1, s1 t7 0 t8.2)))))))))
set_option maxRecDepth 100000 in
set_option maxHeartbeats 4000000 in
theorem w4_brake_0 {p : Program} {l : Launch} {e : Env} {s : State} {m : MethodId} {args : Array Value} {below : List Frame} {meth : Method} {c : Code} {D : va_G} {Y : cYt} {ad : Nat → Nat} {mu : Nat → Nat → Int32} (X : cX D Y p s m args meth c cX4_brake 3 RX4 (some .int)) (hI : cInj ad) (hl0 : l.stackTraces = false) (hZ : c.exceptionTable.toList = [] ∧ zx (cA ad s.heap.size) s)  {x1 : Int32} {x2 : Int32} {t : Int32 × Int32 × (Nat → Nat → Int32)}  {H : Heap} {locs : List Loc} (hH : cH D Y ad mu s H locs) {ls : Array Slot} (hl : lv_has ls 3 [(0, .ref (ad 150)), (1, .int x1), (2, .int x2)]) (hf : f4_brake_0 x1 x2 mu = some t) : W p l e rm4_brake s m args below meth c H locs 0 0 (vx_MQ below (va_Qi (fun (r9 : Int32) (_ : Unit) => r9 = t.2.1 ∧ t.1 = 0) (fun _ t9 => cB D Y ad t.2.2 t9) (cA ad s.heap.size)) (vx_X (fun (_ : Unit) => ¬ t.1 = 0) (fun E _ t9 => E = xn t.1 ∧ cB D Y ad t.2.2 t9) (cA ad s.heap.size)) args s 3 18 (cA ad s.heap.size)) (F0 m 0 ls []) := by
  obtain ⟨⟨hx, hb, hml, hown, hts⟩, hr, hlk, hK⟩ := id X
  replace hf : (Option.bind (f3_hasCar_0 (mu 0) x1) (fun t1 => if t1 = 0 then (some (1, 0, mu)) else (Option.bind (f4_isWithin_0 x2 0 9) (fun t3 => if t3 = 0 then (some (2, 0, mu)) else (Option.bind (f3_isRolling_0 (mu 0) x1) (fun t5 => if t5 = 0 then (some (3, 0, mu)) else (Option.bind (f1_push_0 mu) (fun t7 => Option.bind (f3_changeBrake_0 x1 x2 (t7 0)) (fun t8 => some (0, t8.1, s1 t7 0 t8.2)))))))))) = some t := hf
  refine lv_aload_n hx hb dX4_brake_0 rfl (lv_at hl 0 rfl) ?_
  refine cr_gRa X hH.1 (i := 0) (v := .ref (ad (15 * 0))) (by decide) gfX4_10 rfl dX4_brake_1 ?_
  refine lv_iload_n hx hb dX4_brake_4 rfl (lv_at hl 1 rfl) ?_
  obtain ⟨t1, ht1, hf⟩ := bd_o hf
  refine k3_hasCar X (k := 0) (by omega) rfl hH.1 hl.1 qX4_77 ⟨Nat.le_of_ble_eq_true rfl, Nat.le_of_ble_eq_true rfl⟩ ht1 (Nat.le_of_ble_eq_true rfl) dX4_brake_5 ⟨Nat.le_of_ble_eq_true rfl, Nat.le_of_ble_eq_true rfl⟩ ?_
  refine rq_1 X hl0 hZ hH hl.1 qX4_41 ⟨Nat.le_of_ble_eq_true rfl, Nat.le_of_ble_eq_true rfl⟩ dX4_brake_8 ⟨Nat.le_of_ble_eq_true rfl, Nat.le_of_ble_eq_true rfl⟩ ⟨Nat.le_of_ble_eq_true rfl, Nat.le_of_ble_eq_true rfl⟩ (fun c2 => ?_) (fun c2 => ?_)
  · have hf := it_t c2 hf
    obtain rfl := so_i hf
    exact ⟨rfl, rfl⟩
  have hf := it_f c2 hf
  refine lv_iload_n hx hb dX4_brake_11 rfl (lv_at hl 2 rfl) ?_
  refine lv_iconst (v := 0) hx hb dX4_brake_12 (by decide) ?_
  refine lv_bipush (v := 9) hx hb dX4_brake_13 (by decide) ?_
  obtain ⟨t3, ht3, hf⟩ := bd_o hf
  refine k4_isWithin X.1 hl.1 qX4_45 ⟨Nat.le_of_ble_eq_true rfl, Nat.le_of_ble_eq_true rfl⟩ ht3 (Nat.le_of_ble_eq_true rfl) dX4_brake_15 ⟨Nat.le_of_ble_eq_true rfl, Nat.le_of_ble_eq_true rfl⟩ ?_
  refine rq_2 X hl0 hZ hH hl.1 qX4_49 ⟨Nat.le_of_ble_eq_true rfl, Nat.le_of_ble_eq_true rfl⟩ dX4_brake_18 ⟨Nat.le_of_ble_eq_true rfl, Nat.le_of_ble_eq_true rfl⟩ ⟨Nat.le_of_ble_eq_true rfl, Nat.le_of_ble_eq_true rfl⟩ (fun c4 => ?_) (fun c4 => ?_)
  · have hf := it_t c4 hf
    obtain rfl := so_i hf
    exact ⟨rfl, rfl⟩
  have hf := it_f c4 hf
  refine lv_aload_n hx hb dX4_brake_21 rfl (lv_at hl 0 rfl) ?_
  refine cr_gRa X hH.1 (i := 0) (v := .ref (ad (15 * 0))) (by decide) gfX4_10 rfl dX4_brake_22 ?_
  refine lv_iload_n hx hb dX4_brake_25 rfl (lv_at hl 1 rfl) ?_
  obtain ⟨t5, ht5, hf⟩ := bd_o hf
  refine k3_isRolling X (k := 0) (by omega) rfl hH.1 hl.1 qX4_92 ⟨Nat.le_of_ble_eq_true rfl, Nat.le_of_ble_eq_true rfl⟩ ht5 (Nat.le_of_ble_eq_true rfl) dX4_brake_26 ⟨Nat.le_of_ble_eq_true rfl, Nat.le_of_ble_eq_true rfl⟩ ?_
  refine rq_3 X hl0 hZ hH hl.1 qX4_67 ⟨Nat.le_of_ble_eq_true rfl, Nat.le_of_ble_eq_true rfl⟩ dX4_brake_29 ⟨Nat.le_of_ble_eq_true rfl, Nat.le_of_ble_eq_true rfl⟩ ⟨Nat.le_of_ble_eq_true rfl, Nat.le_of_ble_eq_true rfl⟩ (fun c6 => ?_) (fun c6 => ?_)
  · have hf := it_t c6 hf
    obtain rfl := so_i hf
    exact ⟨rfl, rfl⟩
  have hf := it_f c6 hf
  refine lv_aload_n hx hb dX4_brake_32 rfl (lv_at hl 0 rfl) ?_
  refine cr_gRa X hH.1 (i := 2) (v := .ref (ad 151)) (by decide) gfX4_22 rfl dX4_brake_33 ?_
  refine lv_aload_n hx hb dX4_brake_36 rfl (lv_at hl 0 rfl) ?_
  refine cr_gRa X hH.1 (i := 0) (v := .ref (ad (15 * 0))) (by decide) gfX4_10 rfl dX4_brake_37 ?_
  obtain ⟨t7, ht7, hf⟩ := bd_o hf
  refine k1_push X hI hH hl.1 qX4_52 ⟨Nat.le_of_ble_eq_true rfl, Nat.le_of_ble_eq_true rfl⟩ ht7 (Nat.le_of_ble_eq_true rfl) dX4_brake_40 ⟨Nat.le_of_ble_eq_true rfl, Nat.le_of_ble_eq_true rfl⟩ (fun H locs hH => ?_)
  refine lv_aload_n hx hb dX4_brake_43 rfl (lv_at hl 0 rfl) ?_
  refine cr_gRa X hH.1 (i := 0) (v := .ref (ad (15 * 0))) (by decide) gfX4_10 rfl dX4_brake_44 ?_
  refine lv_iload_n hx hb dX4_brake_47 rfl (lv_at hl 1 rfl) ?_
  refine lv_iload_n hx hb dX4_brake_48 rfl (lv_at hl 2 rfl) ?_
  obtain ⟨t8, ht8, hf⟩ := bd_o hf
  refine km3_changeBrake X hI (k := 0) (by omega) hH hl.1 qX4_95 ⟨Nat.le_of_ble_eq_true rfl, Nat.le_of_ble_eq_true rfl⟩ ht8 (Nat.le_of_ble_eq_true rfl) dX4_brake_49 ⟨Nat.le_of_ble_eq_true rfl, Nat.le_of_ble_eq_true rfl⟩ (fun H locs hH => ?_)
  obtain rfl := so_i hf
  exact cx_iw X hH rfl rfl (Nat.le_of_ble_eq_true rfl) (Nat.le_of_ble_eq_true rfl) dX4_brake_52
set_option maxRecDepth 100000 in
set_option maxHeartbeats 4000000 in
theorem c4_brake (l : Launch) {D : va_G} {Y : cYt} {ad : Nat → Nat} {mu : Nat → Nat → Int32} (hI : cInj ad) (hl0 : l.stackTraces = false) (sz : Nat) (x1 : Int32) (x2 : Int32) {t : Int32 × Int32 × (Nat → Nat → Int32)} (hf : f4_brake_0 x1 x2 mu = some t) : vx_Met l yX4_brake uX4_brake rm4_brake (va_Pc [.ref (ad 150), .int x1, .int x2] (fun U => U.heap.size = sz ∧ zx (cA ad sz) U ∧ cB D Y ad mu U)) (va_Qi (fun (r9 : Int32) (_ : Unit) => r9 = t.2.1 ∧ t.1 = 0) (fun _ t9 => cB D Y ad t.2.2 t9) (cA ad sz)) (vx_X (fun (_ : Unit) => ¬ t.1 = 0) (fun E _ t9 => E = xn t.1 ∧ cB D Y ad t.2.2 t9) (cA ad sz)) 3 18 (cA ad sz) := by
  refine vx_ofW (cc := cX4_brake) (maxL := 3) (ret := (some .int)) (by decide) rfl ?_
  intro p e s m args below meth c s₁ B hml hx0 hv
  obtain ⟨rfl, hsz, hz, hP, hK⟩ := hv
  subst hsz
  have X : cX D Y p s m ([.ref (ad 150), .int x1, .int x2] : List Value).toArray meth c cX4_brake 3 RX4 (some .int) := ⟨⟨B.exec, B.bytes, hml, findClass_of_methodNamed B.named, fun w h => atoms_spec (ws := uX4_brake) B.pre w (List.mem_cons_of_mem _ h)⟩, B.returns, B.notSynchronized, hK⟩
  have hl := lv_entry ([.ref (ad 150), .int x1, .int x2]) (n := 3) (Nat.le_of_ble_eq_true rfl)
  rw [lg_entry_eq]
  generalize (lg_sl ([.ref (ad 150), .int x1, .int x2]) ++ List.replicate (3 - (lg_sl ([.ref (ad 150), .int x1, .int x2])).length) Slot.unset).toArray = ls at hl ⊢
  have hl : lv_has ls 3 [(0, .ref (ad 150)), (1, .int x1), (2, .int x2)] := hl
  exact w4_brake_0 X hI hl0 ⟨List.eq_nil_iff_forall_not_mem.mpr (fun x h => hx0 x h), hz⟩ ⟨hP, va_S.rf⟩ (lv_sub hl [0, 1, 2] rfl) hf
/-! OreRailway.pull(I)I -/
def rm4_pull : Room := { frames := 7, cells := 1, slots := 6, locals := 110 }
def f4_pull_0 (x1 : Int32) (mu : Nat → Nat → Int32) : Option (Int32 × Int32 × (Nat → Nat → Int32)) := Option.bind (f3_hasCar_0 (mu 0) x1) (fun t1 => if t1 = 0 then (some (1, 0, mu)) else (Option.bind (f1_push_0 mu) (fun t3 => Option.bind (f3_harnessMule_0 x1 (t3 0)) (fun t4 => some (0, t4.1, s1 t3 0 t4.2)))))
set_option maxRecDepth 100000 in
set_option maxHeartbeats 4000000 in
theorem w4_pull_0 {p : Program} {l : Launch} {e : Env} {s : State} {m : MethodId} {args : Array Value} {below : List Frame} {meth : Method} {c : Code} {D : va_G} {Y : cYt} {ad : Nat → Nat} {mu : Nat → Nat → Int32} (X : cX D Y p s m args meth c cX4_pull 2 RX4 (some .int)) (hI : cInj ad) (hl0 : l.stackTraces = false) (hZ : c.exceptionTable.toList = [] ∧ zx (cA ad s.heap.size) s)  {x1 : Int32} {t : Int32 × Int32 × (Nat → Nat → Int32)}  {H : Heap} {locs : List Loc} (hH : cH D Y ad mu s H locs) {ls : Array Slot} (hl : lv_has ls 2 [(0, .ref (ad 150)), (1, .int x1)]) (hf : f4_pull_0 x1 mu = some t) : W p l e rm4_pull s m args below meth c H locs 0 0 (vx_MQ below (va_Qi (fun (r9 : Int32) (_ : Unit) => r9 = t.2.1 ∧ t.1 = 0) (fun _ t9 => cB D Y ad t.2.2 t9) (cA ad s.heap.size)) (vx_X (fun (_ : Unit) => ¬ t.1 = 0) (fun E _ t9 => E = xn t.1 ∧ cB D Y ad t.2.2 t9) (cA ad s.heap.size)) args s 1 6 (cA ad s.heap.size)) (F0 m 0 ls []) := by
  obtain ⟨⟨hx, hb, hml, hown, hts⟩, hr, hlk, hK⟩ := id X
  replace hf : (Option.bind (f3_hasCar_0 (mu 0) x1) (fun t1 => if t1 = 0 then (some (1, 0, mu)) else (Option.bind (f1_push_0 mu) (fun t3 => Option.bind (f3_harnessMule_0 x1 (t3 0)) (fun t4 => some (0, t4.1, s1 t3 0 t4.2)))))) = some t := hf
  refine lv_aload_n hx hb dX4_pull_0 rfl (lv_at hl 0 rfl) ?_
  refine cr_gRa X hH.1 (i := 0) (v := .ref (ad (15 * 0))) (by decide) gfX4_10 rfl dX4_pull_1 ?_
  refine lv_iload_n hx hb dX4_pull_4 rfl (lv_at hl 1 rfl) ?_
  obtain ⟨t1, ht1, hf⟩ := bd_o hf
  refine k3_hasCar X (k := 0) (by omega) rfl hH.1 hl.1 qX4_77 ⟨Nat.le_of_ble_eq_true rfl, Nat.le_of_ble_eq_true rfl⟩ ht1 (Nat.le_of_ble_eq_true rfl) dX4_pull_5 ⟨Nat.le_of_ble_eq_true rfl, Nat.le_of_ble_eq_true rfl⟩ ?_
  refine rq_1 X hl0 hZ hH hl.1 qX4_41 ⟨Nat.le_of_ble_eq_true rfl, Nat.le_of_ble_eq_true rfl⟩ dX4_pull_8 ⟨Nat.le_of_ble_eq_true rfl, Nat.le_of_ble_eq_true rfl⟩ ⟨Nat.le_of_ble_eq_true rfl, Nat.le_of_ble_eq_true rfl⟩ (fun c2 => ?_) (fun c2 => ?_)
  · have hf := it_t c2 hf
    obtain rfl := so_i hf
    exact ⟨rfl, rfl⟩
  have hf := it_f c2 hf
  refine lv_aload_n hx hb dX4_pull_11 rfl (lv_at hl 0 rfl) ?_
  refine cr_gRa X hH.1 (i := 2) (v := .ref (ad 151)) (by decide) gfX4_22 rfl dX4_pull_12 ?_
  refine lv_aload_n hx hb dX4_pull_15 rfl (lv_at hl 0 rfl) ?_
  refine cr_gRa X hH.1 (i := 0) (v := .ref (ad (15 * 0))) (by decide) gfX4_10 rfl dX4_pull_16 ?_
  obtain ⟨t3, ht3, hf⟩ := bd_o hf
  refine k1_push X hI hH hl.1 qX4_52 ⟨Nat.le_of_ble_eq_true rfl, Nat.le_of_ble_eq_true rfl⟩ ht3 (Nat.le_of_ble_eq_true rfl) dX4_pull_19 ⟨Nat.le_of_ble_eq_true rfl, Nat.le_of_ble_eq_true rfl⟩ (fun H locs hH => ?_)
  refine lv_aload_n hx hb dX4_pull_22 rfl (lv_at hl 0 rfl) ?_
  refine cr_gRa X hH.1 (i := 0) (v := .ref (ad (15 * 0))) (by decide) gfX4_10 rfl dX4_pull_23 ?_
  refine lv_iload_n hx hb dX4_pull_26 rfl (lv_at hl 1 rfl) ?_
  obtain ⟨t4, ht4, hf⟩ := bd_o hf
  refine km3_harnessMule X hI (k := 0) (by omega) hH hl.1 qX4_98 ⟨Nat.le_of_ble_eq_true rfl, Nat.le_of_ble_eq_true rfl⟩ ht4 (Nat.le_of_ble_eq_true rfl) dX4_pull_27 ⟨Nat.le_of_ble_eq_true rfl, Nat.le_of_ble_eq_true rfl⟩ (fun H locs hH => ?_)
  obtain rfl := so_i hf
  exact cx_iw X hH rfl rfl (Nat.le_of_ble_eq_true rfl) (Nat.le_of_ble_eq_true rfl) dX4_pull_30
set_option maxRecDepth 100000 in
set_option maxHeartbeats 4000000 in
theorem c4_pull (l : Launch) {D : va_G} {Y : cYt} {ad : Nat → Nat} {mu : Nat → Nat → Int32} (hI : cInj ad) (hl0 : l.stackTraces = false) (sz : Nat) (x1 : Int32) {t : Int32 × Int32 × (Nat → Nat → Int32)} (hf : f4_pull_0 x1 mu = some t) : vx_Met l yX4_pull uX4_pull rm4_pull (va_Pc [.ref (ad 150), .int x1] (fun U => U.heap.size = sz ∧ zx (cA ad sz) U ∧ cB D Y ad mu U)) (va_Qi (fun (r9 : Int32) (_ : Unit) => r9 = t.2.1 ∧ t.1 = 0) (fun _ t9 => cB D Y ad t.2.2 t9) (cA ad sz)) (vx_X (fun (_ : Unit) => ¬ t.1 = 0) (fun E _ t9 => E = xn t.1 ∧ cB D Y ad t.2.2 t9) (cA ad sz)) 1 6 (cA ad sz) := by
  refine vx_ofW (cc := cX4_pull) (maxL := 2) (ret := (some .int)) (by decide) rfl ?_
  intro p e s m args below meth c s₁ B hml hx0 hv
  obtain ⟨rfl, hsz, hz, hP, hK⟩ := hv
  subst hsz
  have X : cX D Y p s m ([.ref (ad 150), .int x1] : List Value).toArray meth c cX4_pull 2 RX4 (some .int) := ⟨⟨B.exec, B.bytes, hml, findClass_of_methodNamed B.named, fun w h => atoms_spec (ws := uX4_pull) B.pre w (List.mem_cons_of_mem _ h)⟩, B.returns, B.notSynchronized, hK⟩
  have hl := lv_entry ([.ref (ad 150), .int x1]) (n := 2) (Nat.le_of_ble_eq_true rfl)
  rw [lg_entry_eq]
  generalize (lg_sl ([.ref (ad 150), .int x1]) ++ List.replicate (2 - (lg_sl ([.ref (ad 150), .int x1])).length) Slot.unset).toArray = ls at hl ⊢
  have hl : lv_has ls 2 [(0, .ref (ad 150)), (1, .int x1)] := hl
  exact w4_pull_0 X hI hl0 ⟨List.eq_nil_iff_forall_not_mem.mpr (fun x h => hx0 x h), hz⟩ ⟨hP, va_S.rf⟩ (lv_sub hl [0, 1] rfl) hf
/-! OreRailway.leastOfSetting(I)I -/
def rm4_leastOfSetting : Room := { frames := 0, cells := 0, slots := 0, locals := 0 }
def f4_leastOfSetting_10 (y0 : Int32) : Option (Int32) := some y0
set_option maxRecDepth 100000 in
set_option maxHeartbeats 4000000 in
theorem w4_leastOfSetting_10 {p : Program} {l : Launch} {e : Env} {s : State} {m : MethodId} {args : Array Value} {below : List Frame} {meth : Method} {c : Code} (X : sX p s m args meth c cX4_leastOfSetting 1 RX4 (some .int)) {y0 : Int32} {t : Int32}  {ls : Array Slot} (hl : lv_has ls 1 []) (hf : f4_leastOfSetting_10 y0 = some t) : W p l e rm4_leastOfSetting s m args below meth c s.heap [] 0 0 (MQ below (QcRead t) args s 0 0 (fun _ => False)) (F0 m 10 ls [.int y0]) := by
  obtain ⟨⟨hx, hb, hml, hown, hts⟩, hr, hlk⟩ := id X
  replace hf : (some y0) = some t := hf
  obtain rfl := so_i hf
  exact rd_i hx hb hr hlk dX4_leastOfSetting_10
def f4_leastOfSetting_0 (x0 : Int32) : Option (Int32) := if x0 = 1 then (f4_leastOfSetting_10 1) else (f4_leastOfSetting_10 0)
set_option maxRecDepth 100000 in
set_option maxHeartbeats 4000000 in
theorem w4_leastOfSetting_0 {p : Program} {l : Launch} {e : Env} {s : State} {m : MethodId} {args : Array Value} {below : List Frame} {meth : Method} {c : Code} (X : sX p s m args meth c cX4_leastOfSetting 1 RX4 (some .int)) {x0 : Int32} {t : Int32}  {ls : Array Slot} (hl : lv_has ls 1 [(0, .int x0)]) (hf : f4_leastOfSetting_0 x0 = some t) : W p l e rm4_leastOfSetting s m args below meth c s.heap [] 0 0 (MQ below (QcRead t) args s 0 0 (fun _ => False)) (F0 m 0 ls []) := by
  obtain ⟨⟨hx, hb, hml, hown, hts⟩, hr, hlk⟩ := id X
  replace hf : (if x0 = 1 then (f4_leastOfSetting_10 1) else (f4_leastOfSetting_10 0)) = some t := hf
  refine lv_iload_n hx hb dX4_leastOfSetting_0 rfl (lv_at hl 0 rfl) ?_
  refine lv_iconst (v := 1) hx hb dX4_leastOfSetting_1 (by decide) ?_
  refine lv_icmp_ne (tgt := 9) hx hb dX4_leastOfSetting_2 (by decide) (fun c1 => ?_) (fun c1 => ?_)
  · have hf := it_f c1 hf
    refine lv_iconst (v := 0) hx hb dX4_leastOfSetting_9 (by decide) ?_
    exact w4_leastOfSetting_10 X  (lv_sub hl [] rfl) hf
  · have hf := it_t c1 hf
    refine lv_iconst (v := 1) hx hb dX4_leastOfSetting_5 (by decide) ?_
    refine lv_goto (tgt := 10) hx hb dX4_leastOfSetting_6 (by decide) ?_
    exact w4_leastOfSetting_10 X  (lv_sub hl [] rfl) hf
set_option maxRecDepth 100000 in
set_option maxHeartbeats 4000000 in
theorem c4_leastOfSetting (l : Launch) (x0 : Int32) {t : Int32} (hf : f4_leastOfSetting_0 x0 = some t) : Met l yX4_leastOfSetting uX4_leastOfSetting rm4_leastOfSetting (fun v _ => v = ([.int x0] : List Value).toArray) (QcRead t) 0 0 (fun _ => False) := by
  refine Met.ofW (cc := cX4_leastOfSetting) (maxL := 1) (ret := (some .int)) (by decide) rfl ?_
  intro p e s m args below meth c s₁ B hml hv
  obtain rfl := hv
  have X : sX p s m ([.int x0] : List Value).toArray meth c cX4_leastOfSetting 1 RX4 (some .int) := ⟨⟨B.exec, B.bytes, hml, findClass_of_methodNamed B.named, fun w h => atoms_spec (ws := uX4_leastOfSetting) B.pre w (List.mem_cons_of_mem _ h)⟩, B.returns, B.notSynchronized⟩
  have hl := lv_entry ([.int x0]) (n := 1) (Nat.le_of_ble_eq_true rfl)
  rw [lg_entry_eq]
  generalize (lg_sl ([.int x0]) ++ List.replicate (1 - (lg_sl ([.int x0])).length) Slot.unset).toArray = ls at hl ⊢
  have hl : lv_has ls 1 [(0, .int x0)] := hl
  exact w4_leastOfSetting_0 X (lv_sub hl [0] rfl) hf
set_option maxRecDepth 100000 in
set_option maxHeartbeats 4000000 in
theorem k4_leastOfSetting {p : Program} {l : Launch} {e : Env} {R : Room} {s : State} {m : MethodId} {args : Array Value} {below : List Frame} {meth : Method} {c : Code} {cc : ByteArray} {nL : Nat} {own : String} {H : Heap} {locs : List Loc} {cells slots : Nat} {Q : State → Prop} {pc : Nat} {ls : Array Slot} {rest : List Value} (S : CallFix p m c cc nL s args gw own) (hls : ls.size = nL) {index : Nat} (hG : GoodIn gw (va_wsS own index yX4_leastOfSetting uX4_leastOfSetting)) (hR : rm4_leastOfSetting.frames + 1 ≤ R.frames ∧ 8 + (1 + 11) + rm4_leastOfSetting.locals ≤ R.locals) {x0 : Int32} {t : Int32} (hf : f4_leastOfSetting_0 x0 = some t) (hrest : (rest.map fun v => v.category).sum ≤ 8) (hdg : decode cc pc = .ok (.invokestatic index, 3)) (hc : cells ≤ R.cells ∧ slots ≤ R.slots) (kk : W p l e R s m args below meth c H locs cells slots Q (F0 m (pc + 3) ls (.int t :: rest))) : W p l e R s m args below meth c H locs cells slots Q (F0 m pc ls (.int x0 :: rest)) :=
  W.callR (W.runS S (c4_leastOfSetting l x0 hf) (va_cwS 1 S.2.2.2.2 hG rfl rfl rfl (by decide +kernel) hR) preEq rfl rfl hls rfl (lv_room hrest) hdg hc) kk
/-! OreRailway.greatestOfSetting(I)I -/
def rm4_greatestOfSetting : Room := { frames := 0, cells := 0, slots := 0, locals := 0 }
def f4_greatestOfSetting_0 (x0 : Int32) : Option (Int32) := if x0 = 0 then (some 5) else (if x0 = 1 then (some 20) else (some 4))
set_option maxRecDepth 100000 in
set_option maxHeartbeats 4000000 in
theorem w4_greatestOfSetting_0 {p : Program} {l : Launch} {e : Env} {s : State} {m : MethodId} {args : Array Value} {below : List Frame} {meth : Method} {c : Code} (X : sX p s m args meth c cX4_greatestOfSetting 1 RX4 (some .int)) {x0 : Int32} {t : Int32}  {ls : Array Slot} (hl : lv_has ls 1 [(0, .int x0)]) (hf : f4_greatestOfSetting_0 x0 = some t) : W p l e rm4_greatestOfSetting s m args below meth c s.heap [] 0 0 (MQ below (QcRead t) args s 0 0 (fun _ => False)) (F0 m 0 ls []) := by
  obtain ⟨⟨hx, hb, hml, hown, hts⟩, hr, hlk⟩ := id X
  replace hf : (if x0 = 0 then (some 5) else (if x0 = 1 then (some 20) else (some 4))) = some t := hf
  refine lv_iload_n hx hb dX4_greatestOfSetting_0 rfl (lv_at hl 0 rfl) ?_
  by_cases c1 : x0 = 0
  · have hf := it_t c1 hf
    refine lv_lookup (off := 27) (tgt := 28) hx hb dX4_greatestOfSetting_1 (by decide) (by rw [c1]; decide) (by decide) ?_
    refine lv_iconst (v := 5) hx hb dX4_greatestOfSetting_28 (by decide) ?_
    obtain rfl := so_i hf
    exact rd_i hx hb hr hlk dX4_greatestOfSetting_29
  · have hf := it_f c1 hf
    by_cases c2 : x0 = 1
    · have hf := it_t c2 hf
      refine lv_lookup (off := 29) (tgt := 30) hx hb dX4_greatestOfSetting_1 (by decide) (by rw [c2]; decide) (by decide) ?_
      refine lv_bipush (v := 20) hx hb dX4_greatestOfSetting_30 (by decide) ?_
      obtain rfl := so_i hf
      exact rd_i hx hb hr hlk dX4_greatestOfSetting_32
    · have hf := it_f c2 hf
      refine lv_lookup (off := 32) (tgt := 33) hx hb dX4_greatestOfSetting_1 (by decide) ?_ (by decide) ?_
      · show Op.lookupswitch.offset [(0, 27), (1, 29)] 32 (Int32.toInt x0) = _
        rw [lv_osw c1 (by decide), lv_osw c2 (by decide)]; rfl
      refine lv_iconst (v := 4) hx hb dX4_greatestOfSetting_33 (by decide) ?_
      obtain rfl := so_i hf
      exact rd_i hx hb hr hlk dX4_greatestOfSetting_34
set_option maxRecDepth 100000 in
set_option maxHeartbeats 4000000 in
theorem c4_greatestOfSetting (l : Launch) (x0 : Int32) {t : Int32} (hf : f4_greatestOfSetting_0 x0 = some t) : Met l yX4_greatestOfSetting uX4_greatestOfSetting rm4_greatestOfSetting (fun v _ => v = ([.int x0] : List Value).toArray) (QcRead t) 0 0 (fun _ => False) := by
  refine Met.ofW (cc := cX4_greatestOfSetting) (maxL := 1) (ret := (some .int)) (by decide) rfl ?_
  intro p e s m args below meth c s₁ B hml hv
  obtain rfl := hv
  have X : sX p s m ([.int x0] : List Value).toArray meth c cX4_greatestOfSetting 1 RX4 (some .int) := ⟨⟨B.exec, B.bytes, hml, findClass_of_methodNamed B.named, fun w h => atoms_spec (ws := uX4_greatestOfSetting) B.pre w (List.mem_cons_of_mem _ h)⟩, B.returns, B.notSynchronized⟩
  have hl := lv_entry ([.int x0]) (n := 1) (Nat.le_of_ble_eq_true rfl)
  rw [lg_entry_eq]
  generalize (lg_sl ([.int x0]) ++ List.replicate (1 - (lg_sl ([.int x0])).length) Slot.unset).toArray = ls at hl ⊢
  have hl : lv_has ls 1 [(0, .int x0)] := hl
  exact w4_greatestOfSetting_0 X (lv_sub hl [0] rfl) hf
set_option maxRecDepth 100000 in
set_option maxHeartbeats 4000000 in
theorem k4_greatestOfSetting {p : Program} {l : Launch} {e : Env} {R : Room} {s : State} {m : MethodId} {args : Array Value} {below : List Frame} {meth : Method} {c : Code} {cc : ByteArray} {nL : Nat} {own : String} {H : Heap} {locs : List Loc} {cells slots : Nat} {Q : State → Prop} {pc : Nat} {ls : Array Slot} {rest : List Value} (S : CallFix p m c cc nL s args gw own) (hls : ls.size = nL) {index : Nat} (hG : GoodIn gw (va_wsS own index yX4_greatestOfSetting uX4_greatestOfSetting)) (hR : rm4_greatestOfSetting.frames + 1 ≤ R.frames ∧ 8 + (1 + 11) + rm4_greatestOfSetting.locals ≤ R.locals) {x0 : Int32} {t : Int32} (hf : f4_greatestOfSetting_0 x0 = some t) (hrest : (rest.map fun v => v.category).sum ≤ 8) (hdg : decode cc pc = .ok (.invokestatic index, 3)) (hc : cells ≤ R.cells ∧ slots ≤ R.slots) (kk : W p l e R s m args below meth c H locs cells slots Q (F0 m (pc + 3) ls (.int t :: rest))) : W p l e R s m args below meth c H locs cells slots Q (F0 m pc ls (.int x0 :: rest)) :=
  W.callR (W.runS S (c4_greatestOfSetting l x0 hf) (va_cwS 1 S.2.2.2.2 hG rfl rfl rfl (by decide +kernel) hR) preEq rfl rfl hls rfl (lv_room hrest) hdg hc) kk
/-! OreRailway.set(II)I -/
def rm4_set : Room := { frames := 7, cells := 2, slots := 12, locals := 110 }
def f4_set_14 (x1 : Int32) (x2 : Int32) (y0 : Int32) (mu : Nat → Nat → Int32) : Option (Int32 × Int32 × (Nat → Nat → Int32)) := if y0 = 0 then (some (1, 0, mu)) else (Option.bind (f4_leastOfSetting_0 x1) (fun t2 => Option.bind (f4_greatestOfSetting_0 x1) (fun t3 => Option.bind (f4_isWithin_0 x2 t2 t3) (fun t4 => if t4 = 0 then (some (2, 0, mu)) else (Option.bind (f1_push_0 mu) (fun t6 => gd x1 3 (gd x1 3 (some (0, t6 0 (168 + Int32.toNatClampNeg x1), s1 t6 0 (upd (t6 0) (168 + Int32.toNatClampNeg x1) x2))))))))))
set_option maxRecDepth 100000 in
set_option maxHeartbeats 4000000 in
theorem w4_set_14 {p : Program} {l : Launch} {e : Env} {s : State} {m : MethodId} {args : Array Value} {below : List Frame} {meth : Method} {c : Code} {D : va_G} {Y : cYt} {ad : Nat → Nat} {mu : Nat → Nat → Int32} (X : cX D Y p s m args meth c cX4_set 4 RX4 (some .int)) (hI : cInj ad) (hl0 : l.stackTraces = false) (hZ : c.exceptionTable.toList = [] ∧ zx (cA ad s.heap.size) s)  {x1 : Int32} {x2 : Int32} {y0 : Int32} {t : Int32 × Int32 × (Nat → Nat → Int32)}  {H : Heap} {locs : List Loc} (hH : cH D Y ad mu s H locs) {ls : Array Slot} (hl : lv_has ls 4 [(0, .ref (ad 150)), (1, .int x1), (2, .int x2)]) (hf : f4_set_14 x1 x2 y0 mu = some t) : W p l e rm4_set s m args below meth c H locs 0 0 (vx_MQ below (va_Qi (fun (r9 : Int32) (_ : Unit) => r9 = t.2.1 ∧ t.1 = 0) (fun _ t9 => cB D Y ad t.2.2 t9) (cA ad s.heap.size)) (vx_X (fun (_ : Unit) => ¬ t.1 = 0) (fun E _ t9 => E = xn t.1 ∧ cB D Y ad t.2.2 t9) (cA ad s.heap.size)) args s 2 12 (cA ad s.heap.size)) (F0 m 14 ls [.int y0]) := by
  obtain ⟨⟨hx, hb, hml, hown, hts⟩, hr, hlk, hK⟩ := id X
  replace hf : (if y0 = 0 then (some (1, 0, mu)) else (Option.bind (f4_leastOfSetting_0 x1) (fun t2 => Option.bind (f4_greatestOfSetting_0 x1) (fun t3 => Option.bind (f4_isWithin_0 x2 t2 t3) (fun t4 => if t4 = 0 then (some (2, 0, mu)) else (Option.bind (f1_push_0 mu) (fun t6 => gd x1 3 (gd x1 3 (some (0, t6 0 (168 + Int32.toNatClampNeg x1), s1 t6 0 (upd (t6 0) (168 + Int32.toNatClampNeg x1) x2))))))))))) = some t := hf
  refine rq_1 X hl0 hZ hH hl.1 qX4_41 ⟨Nat.le_of_ble_eq_true rfl, Nat.le_of_ble_eq_true rfl⟩ dX4_set_14 ⟨Nat.le_of_ble_eq_true rfl, Nat.le_of_ble_eq_true rfl⟩ ⟨Nat.le_of_ble_eq_true rfl, Nat.le_of_ble_eq_true rfl⟩ (fun c1 => ?_) (fun c1 => ?_)
  · have hf := it_t c1 hf
    obtain rfl := so_i hf
    exact ⟨rfl, rfl⟩
  have hf := it_f c1 hf
  refine lv_iload_n hx hb dX4_set_17 rfl (lv_at hl 2 rfl) ?_
  refine lv_iload_n hx hb dX4_set_18 rfl (lv_at hl 1 rfl) ?_
  obtain ⟨t2, ht2, hf⟩ := bd_o hf
  refine k4_leastOfSetting X.1 hl.1 qX4_102 ⟨Nat.le_of_ble_eq_true rfl, Nat.le_of_ble_eq_true rfl⟩ ht2 (Nat.le_of_ble_eq_true rfl) dX4_set_19 ⟨Nat.le_of_ble_eq_true rfl, Nat.le_of_ble_eq_true rfl⟩ ?_
  refine lv_iload_n hx hb dX4_set_22 rfl (lv_at hl 1 rfl) ?_
  obtain ⟨t3, ht3, hf⟩ := bd_o hf
  refine k4_greatestOfSetting X.1 hl.1 qX4_105 ⟨Nat.le_of_ble_eq_true rfl, Nat.le_of_ble_eq_true rfl⟩ ht3 (Nat.le_of_ble_eq_true rfl) dX4_set_23 ⟨Nat.le_of_ble_eq_true rfl, Nat.le_of_ble_eq_true rfl⟩ ?_
  obtain ⟨t4, ht4, hf⟩ := bd_o hf
  refine k4_isWithin X.1 hl.1 qX4_45 ⟨Nat.le_of_ble_eq_true rfl, Nat.le_of_ble_eq_true rfl⟩ ht4 (Nat.le_of_ble_eq_true rfl) dX4_set_26 ⟨Nat.le_of_ble_eq_true rfl, Nat.le_of_ble_eq_true rfl⟩ ?_
  refine rq_2 X hl0 hZ hH hl.1 qX4_49 ⟨Nat.le_of_ble_eq_true rfl, Nat.le_of_ble_eq_true rfl⟩ dX4_set_29 ⟨Nat.le_of_ble_eq_true rfl, Nat.le_of_ble_eq_true rfl⟩ ⟨Nat.le_of_ble_eq_true rfl, Nat.le_of_ble_eq_true rfl⟩ (fun c5 => ?_) (fun c5 => ?_)
  · have hf := it_t c5 hf
    obtain rfl := so_i hf
    exact ⟨rfl, rfl⟩
  have hf := it_f c5 hf
  refine lv_aload_n hx hb dX4_set_32 rfl (lv_at hl 0 rfl) ?_
  refine cr_gRa X hH.1 (i := 2) (v := .ref (ad 151)) (by decide) gfX4_22 rfl dX4_set_33 ?_
  refine lv_aload_n hx hb dX4_set_36 rfl (lv_at hl 0 rfl) ?_
  refine cr_gRa X hH.1 (i := 0) (v := .ref (ad (15 * 0))) (by decide) gfX4_10 rfl dX4_set_37 ?_
  obtain ⟨t6, ht6, hf⟩ := bd_o hf
  refine k1_push X hI hH hl.1 qX4_52 ⟨Nat.le_of_ble_eq_true rfl, Nat.le_of_ble_eq_true rfl⟩ ht6 (Nat.le_of_ble_eq_true rfl) dX4_set_40 ⟨Nat.le_of_ble_eq_true rfl, Nat.le_of_ble_eq_true rfl⟩ (fun H locs hH => ?_)
  refine lv_aload_n hx hb dX4_set_43 rfl (lv_at hl 0 rfl) ?_
  refine cr_gRa X hH.1 (i := 0) (v := .ref (ad (15 * 0))) (by decide) gfX4_10 rfl dX4_set_44 ?_
  refine cr_gSt X (k := 0) (by omega) rfl hH.1 (i := 3) (v := .ref (ad (15 * 0 + 4))) (by decide) gfX4_108 rfl dX4_set_47 ?_
  refine lv_iload_n hx hb dX4_set_50 rfl (lv_at hl 1 rfl) ?_
  obtain ⟨hi7, hf⟩ := gd_o hf
  refine cr_ld4 X (k := 0) (by omega) rfl hH.1 hi7 dX4_set_51 ?_
  refine lv_istore_n (lv' := [(3, .int (t6 0 (168 + Int32.toNatClampNeg x1))), (0, .ref (ad 150)), (1, .int x1), (2, .int x2)]) hx hb dX4_set_52 rfl hl (by decide) rfl (fun ls hl => ?_)
  refine lv_aload_n hx hb dX4_set_53 rfl (lv_at hl 1 rfl) ?_
  refine cr_gRa X hH.1 (i := 0) (v := .ref (ad (15 * 0))) (by decide) gfX4_10 rfl dX4_set_54 ?_
  refine cr_gSt X (k := 0) (by omega) rfl hH.1 (i := 3) (v := .ref (ad (15 * 0 + 4))) (by decide) gfX4_108 rfl dX4_set_57 ?_
  refine lv_iload_n hx hb dX4_set_60 rfl (lv_at hl 2 rfl) ?_
  refine lv_iload_n hx hb dX4_set_61 rfl (lv_at hl 3 rfl) ?_
  obtain ⟨hi8, hf⟩ := gd_o hf
  refine cv_st4 X hI (k := 0) (by omega) (cH_in 0 hH) hi8 dX4_set_62 (fun H locs hH => ?_)
  refine lv_iload_n hx hb dX4_set_63 rfl (lv_at hl 0 rfl) ?_
  obtain rfl := so_i hf
  exact cx_iw X hH rfl rfl (Nat.le_of_ble_eq_true rfl) (Nat.le_of_ble_eq_true rfl) dX4_set_64
def f4_set_13 (x1 : Int32) (x2 : Int32) (mu : Nat → Nat → Int32) : Option (Int32 × Int32 × (Nat → Nat → Int32)) := f4_set_14 x1 x2 0 mu
set_option maxRecDepth 100000 in
set_option maxHeartbeats 4000000 in
theorem w4_set_13 {p : Program} {l : Launch} {e : Env} {s : State} {m : MethodId} {args : Array Value} {below : List Frame} {meth : Method} {c : Code} {D : va_G} {Y : cYt} {ad : Nat → Nat} {mu : Nat → Nat → Int32} (X : cX D Y p s m args meth c cX4_set 4 RX4 (some .int)) (hI : cInj ad) (hl0 : l.stackTraces = false) (hZ : c.exceptionTable.toList = [] ∧ zx (cA ad s.heap.size) s)  {x1 : Int32} {x2 : Int32} {t : Int32 × Int32 × (Nat → Nat → Int32)}  {H : Heap} {locs : List Loc} (hH : cH D Y ad mu s H locs) {ls : Array Slot} (hl : lv_has ls 4 [(0, .ref (ad 150)), (1, .int x1), (2, .int x2)]) (hf : f4_set_13 x1 x2 mu = some t) : W p l e rm4_set s m args below meth c H locs 0 0 (vx_MQ below (va_Qi (fun (r9 : Int32) (_ : Unit) => r9 = t.2.1 ∧ t.1 = 0) (fun _ t9 => cB D Y ad t.2.2 t9) (cA ad s.heap.size)) (vx_X (fun (_ : Unit) => ¬ t.1 = 0) (fun E _ t9 => E = xn t.1 ∧ cB D Y ad t.2.2 t9) (cA ad s.heap.size)) args s 2 12 (cA ad s.heap.size)) (F0 m 13 ls []) := by
  obtain ⟨⟨hx, hb, hml, hown, hts⟩, hr, hlk, hK⟩ := id X
  replace hf : (f4_set_14 x1 x2 0 mu) = some t := hf
  refine lv_iconst (v := 0) hx hb dX4_set_13 (by decide) ?_
  exact w4_set_14 X hI hl0 hZ hH (lv_sub hl [0, 1, 2] rfl) hf
def f4_set_0 (x1 : Int32) (x2 : Int32) (mu : Nat → Nat → Int32) : Option (Int32 × Int32 × (Nat → Nat → Int32)) := if x1 < 0 then (f4_set_13 x1 x2 mu) else (if 3 ≤ x1 then (f4_set_13 x1 x2 mu) else (f4_set_14 x1 x2 1 mu))
set_option maxRecDepth 100000 in
set_option maxHeartbeats 4000000 in
theorem w4_set_0 {p : Program} {l : Launch} {e : Env} {s : State} {m : MethodId} {args : Array Value} {below : List Frame} {meth : Method} {c : Code} {D : va_G} {Y : cYt} {ad : Nat → Nat} {mu : Nat → Nat → Int32} (X : cX D Y p s m args meth c cX4_set 4 RX4 (some .int)) (hI : cInj ad) (hl0 : l.stackTraces = false) (hZ : c.exceptionTable.toList = [] ∧ zx (cA ad s.heap.size) s)  {x1 : Int32} {x2 : Int32} {t : Int32 × Int32 × (Nat → Nat → Int32)}  {H : Heap} {locs : List Loc} (hH : cH D Y ad mu s H locs) {ls : Array Slot} (hl : lv_has ls 4 [(0, .ref (ad 150)), (1, .int x1), (2, .int x2)]) (hf : f4_set_0 x1 x2 mu = some t) : W p l e rm4_set s m args below meth c H locs 0 0 (vx_MQ below (va_Qi (fun (r9 : Int32) (_ : Unit) => r9 = t.2.1 ∧ t.1 = 0) (fun _ t9 => cB D Y ad t.2.2 t9) (cA ad s.heap.size)) (vx_X (fun (_ : Unit) => ¬ t.1 = 0) (fun E _ t9 => E = xn t.1 ∧ cB D Y ad t.2.2 t9) (cA ad s.heap.size)) args s 2 12 (cA ad s.heap.size)) (F0 m 0 ls []) := by
  obtain ⟨⟨hx, hb, hml, hown, hts⟩, hr, hlk, hK⟩ := id X
  replace hf : (if x1 < 0 then (f4_set_13 x1 x2 mu) else (if 3 ≤ x1 then (f4_set_13 x1 x2 mu) else (f4_set_14 x1 x2 1 mu))) = some t := hf
  refine lv_iload_n hx hb dX4_set_0 rfl (lv_at hl 1 rfl) ?_
  refine lv_if_lt (tgt := 13) hx hb dX4_set_1 (by decide) (fun c1 => ?_) (fun c1 => ?_)
  · have hf := it_t c1 hf
    exact w4_set_13 X hI hl0 hZ hH (lv_sub hl [0, 1, 2] rfl) hf
  · have hf := it_f c1 hf
    refine lv_iload_n hx hb dX4_set_4 rfl (lv_at hl 1 rfl) ?_
    refine lv_iconst (v := 3) hx hb dX4_set_5 (by decide) ?_
    refine lv_icmp_ge (tgt := 13) hx hb dX4_set_6 (by decide) (fun c2 => ?_) (fun c2 => ?_)
    · have hf := it_t c2 hf
      exact w4_set_13 X hI hl0 hZ hH (lv_sub hl [0, 1, 2] rfl) hf
    · have hf := it_f c2 hf
      refine lv_iconst (v := 1) hx hb dX4_set_9 (by decide) ?_
      refine lv_goto (tgt := 14) hx hb dX4_set_10 (by decide) ?_
      exact w4_set_14 X hI hl0 hZ hH (lv_sub hl [0, 1, 2] rfl) hf
set_option maxRecDepth 100000 in
set_option maxHeartbeats 4000000 in
theorem c4_set (l : Launch) {D : va_G} {Y : cYt} {ad : Nat → Nat} {mu : Nat → Nat → Int32} (hI : cInj ad) (hl0 : l.stackTraces = false) (sz : Nat) (x1 : Int32) (x2 : Int32) {t : Int32 × Int32 × (Nat → Nat → Int32)} (hf : f4_set_0 x1 x2 mu = some t) : vx_Met l yX4_set uX4_set rm4_set (va_Pc [.ref (ad 150), .int x1, .int x2] (fun U => U.heap.size = sz ∧ zx (cA ad sz) U ∧ cB D Y ad mu U)) (va_Qi (fun (r9 : Int32) (_ : Unit) => r9 = t.2.1 ∧ t.1 = 0) (fun _ t9 => cB D Y ad t.2.2 t9) (cA ad sz)) (vx_X (fun (_ : Unit) => ¬ t.1 = 0) (fun E _ t9 => E = xn t.1 ∧ cB D Y ad t.2.2 t9) (cA ad sz)) 2 12 (cA ad sz) := by
  refine vx_ofW (cc := cX4_set) (maxL := 4) (ret := (some .int)) (by decide) rfl ?_
  intro p e s m args below meth c s₁ B hml hx0 hv
  obtain ⟨rfl, hsz, hz, hP, hK⟩ := hv
  subst hsz
  have X : cX D Y p s m ([.ref (ad 150), .int x1, .int x2] : List Value).toArray meth c cX4_set 4 RX4 (some .int) := ⟨⟨B.exec, B.bytes, hml, findClass_of_methodNamed B.named, fun w h => atoms_spec (ws := uX4_set) B.pre w (List.mem_cons_of_mem _ h)⟩, B.returns, B.notSynchronized, hK⟩
  have hl := lv_entry ([.ref (ad 150), .int x1, .int x2]) (n := 4) (Nat.le_of_ble_eq_true rfl)
  rw [lg_entry_eq]
  generalize (lg_sl ([.ref (ad 150), .int x1, .int x2]) ++ List.replicate (4 - (lg_sl ([.ref (ad 150), .int x1, .int x2])).length) Slot.unset).toArray = ls at hl ⊢
  have hl : lv_has ls 4 [(0, .ref (ad 150)), (1, .int x1), (2, .int x2)] := hl
  exact w4_set_0 X hI hl0 ⟨List.eq_nil_iff_forall_not_mem.mpr (fun x h => hx0 x h), hz⟩ ⟨hP, va_S.rf⟩ (lv_sub hl [0, 1, 2] rfl) hf
/-! OreRailway.run(I)I -/
def rm4_run : Room := { frames := 7, cells := 1, slots := 6, locals := 115 }
def f4_run_0 (x1 : Int32) (mu : Nat → Nat → Int32) : Option (Int32 × Int32 × (Nat → Nat → Int32)) := Option.bind (f4_isWithin_0 x1 1 60) (fun t1 => if t1 = 0 then (some (2, 0, mu)) else (Option.bind (f1_push_0 mu) (fun t3 => Option.bind (f3_passTicks_0 x1 (t3 0) (t3 (0 + 20))) (fun t4 => some (0, ((s1 (s1 t3 (0 + 20) t4.2) 0 t4.1) 0 165) - (t3 0 165), s1 (s1 t3 (0 + 20) t4.2) 0 t4.1)))))
set_option maxRecDepth 100000 in
set_option maxHeartbeats 4000000 in
theorem w4_run_0 {p : Program} {l : Launch} {e : Env} {s : State} {m : MethodId} {args : Array Value} {below : List Frame} {meth : Method} {c : Code} {D : va_G} {Y : cYt} {ad : Nat → Nat} {mu : Nat → Nat → Int32} (X : cX D Y p s m args meth c cX4_run 3 RX4 (some .int)) (hI : cInj ad) (hl0 : l.stackTraces = false) (hZ : c.exceptionTable.toList = [] ∧ zx (cA ad s.heap.size) s)  {x1 : Int32} {t : Int32 × Int32 × (Nat → Nat → Int32)}  {H : Heap} {locs : List Loc} (hH : cH D Y ad mu s H locs) {ls : Array Slot} (hl : lv_has ls 3 [(0, .ref (ad 150)), (1, .int x1)]) (hf : f4_run_0 x1 mu = some t) : W p l e rm4_run s m args below meth c H locs 0 0 (vx_MQ below (va_Qi (fun (r9 : Int32) (_ : Unit) => r9 = t.2.1 ∧ t.1 = 0) (fun _ t9 => cB D Y ad t.2.2 t9) (cA ad s.heap.size)) (vx_X (fun (_ : Unit) => ¬ t.1 = 0) (fun E _ t9 => E = xn t.1 ∧ cB D Y ad t.2.2 t9) (cA ad s.heap.size)) args s 1 6 (cA ad s.heap.size)) (F0 m 0 ls []) := by
  obtain ⟨⟨hx, hb, hml, hown, hts⟩, hr, hlk, hK⟩ := id X
  replace hf : (Option.bind (f4_isWithin_0 x1 1 60) (fun t1 => if t1 = 0 then (some (2, 0, mu)) else (Option.bind (f1_push_0 mu) (fun t3 => Option.bind (f3_passTicks_0 x1 (t3 0) (t3 (0 + 20))) (fun t4 => some (0, ((s1 (s1 t3 (0 + 20) t4.2) 0 t4.1) 0 165) - (t3 0 165), s1 (s1 t3 (0 + 20) t4.2) 0 t4.1)))))) = some t := hf
  refine lv_iload_n hx hb dX4_run_0 rfl (lv_at hl 1 rfl) ?_
  refine lv_iconst (v := 1) hx hb dX4_run_1 (by decide) ?_
  refine lv_bipush (v := 60) hx hb dX4_run_2 (by decide) ?_
  obtain ⟨t1, ht1, hf⟩ := bd_o hf
  refine k4_isWithin X.1 hl.1 qX4_45 ⟨Nat.le_of_ble_eq_true rfl, Nat.le_of_ble_eq_true rfl⟩ ht1 (Nat.le_of_ble_eq_true rfl) dX4_run_4 ⟨Nat.le_of_ble_eq_true rfl, Nat.le_of_ble_eq_true rfl⟩ ?_
  refine rq_2 X hl0 hZ hH hl.1 qX4_49 ⟨Nat.le_of_ble_eq_true rfl, Nat.le_of_ble_eq_true rfl⟩ dX4_run_7 ⟨Nat.le_of_ble_eq_true rfl, Nat.le_of_ble_eq_true rfl⟩ ⟨Nat.le_of_ble_eq_true rfl, Nat.le_of_ble_eq_true rfl⟩ (fun c2 => ?_) (fun c2 => ?_)
  · have hf := it_t c2 hf
    obtain rfl := so_i hf
    exact ⟨rfl, rfl⟩
  have hf := it_f c2 hf
  refine lv_aload_n hx hb dX4_run_10 rfl (lv_at hl 0 rfl) ?_
  refine cr_gRa X hH.1 (i := 2) (v := .ref (ad 151)) (by decide) gfX4_22 rfl dX4_run_11 ?_
  refine lv_aload_n hx hb dX4_run_14 rfl (lv_at hl 0 rfl) ?_
  refine cr_gRa X hH.1 (i := 0) (v := .ref (ad (15 * 0))) (by decide) gfX4_10 rfl dX4_run_15 ?_
  obtain ⟨t3, ht3, hf⟩ := bd_o hf
  refine k1_push X hI hH hl.1 qX4_52 ⟨Nat.le_of_ble_eq_true rfl, Nat.le_of_ble_eq_true rfl⟩ ht3 (Nat.le_of_ble_eq_true rfl) dX4_run_18 ⟨Nat.le_of_ble_eq_true rfl, Nat.le_of_ble_eq_true rfl⟩ (fun H locs hH => ?_)
  refine lv_aload_n hx hb dX4_run_21 rfl (lv_at hl 0 rfl) ?_
  refine cr_gRa X hH.1 (i := 0) (v := .ref (ad (15 * 0))) (by decide) gfX4_10 rfl dX4_run_22 ?_
  refine cr_gSt X (k := 0) (by omega) rfl hH.1 (i := 9) (v := .int (t3 0 165)) (by decide) gfX4_111 rfl dX4_run_25 ?_
  refine lv_istore_n (lv' := [(2, .int (t3 0 165)), (0, .ref (ad 150)), (1, .int x1)]) hx hb dX4_run_28 rfl hl (by decide) rfl (fun ls hl => ?_)
  refine lv_aload_n hx hb dX4_run_29 rfl (lv_at hl 1 rfl) ?_
  refine cr_gRa X hH.1 (i := 0) (v := .ref (ad (15 * 0))) (by decide) gfX4_10 rfl dX4_run_30 ?_
  refine lv_iload_n hx hb dX4_run_33 rfl (lv_at hl 2 rfl) ?_
  obtain ⟨t4, ht4, hf⟩ := bd_o hf
  refine km3_passTicks X hI (k := 0) (by omega) hH hl.1 qX4_114 ⟨Nat.le_of_ble_eq_true rfl, Nat.le_of_ble_eq_true rfl⟩ ht4 (Nat.le_of_ble_eq_true rfl) dX4_run_34 ⟨Nat.le_of_ble_eq_true rfl, Nat.le_of_ble_eq_true rfl⟩ (fun H locs hH => ?_)
  refine lv_aload_n hx hb dX4_run_37 rfl (lv_at hl 1 rfl) ?_
  refine cr_gRa X hH.1 (i := 0) (v := .ref (ad (15 * 0))) (by decide) gfX4_10 rfl dX4_run_38 ?_
  refine cr_gSt X (k := 0) (by omega) rfl hH.1 (i := 9) (v := .int ((s1 (s1 t3 (0 + 20) t4.2) 0 t4.1) 0 165)) (by decide) gfX4_111 rfl dX4_run_41 ?_
  refine lv_iload_n hx hb dX4_run_44 rfl (lv_at hl 0 rfl) ?_
  refine lv_isub hx hb dX4_run_45 ?_
  obtain rfl := so_i hf
  exact cx_iw X hH rfl rfl (Nat.le_of_ble_eq_true rfl) (Nat.le_of_ble_eq_true rfl) dX4_run_46
set_option maxRecDepth 100000 in
set_option maxHeartbeats 4000000 in
theorem c4_run (l : Launch) {D : va_G} {Y : cYt} {ad : Nat → Nat} {mu : Nat → Nat → Int32} (hI : cInj ad) (hl0 : l.stackTraces = false) (sz : Nat) (x1 : Int32) {t : Int32 × Int32 × (Nat → Nat → Int32)} (hf : f4_run_0 x1 mu = some t) : vx_Met l yX4_run uX4_run rm4_run (va_Pc [.ref (ad 150), .int x1] (fun U => U.heap.size = sz ∧ zx (cA ad sz) U ∧ cB D Y ad mu U)) (va_Qi (fun (r9 : Int32) (_ : Unit) => r9 = t.2.1 ∧ t.1 = 0) (fun _ t9 => cB D Y ad t.2.2 t9) (cA ad sz)) (vx_X (fun (_ : Unit) => ¬ t.1 = 0) (fun E _ t9 => E = xn t.1 ∧ cB D Y ad t.2.2 t9) (cA ad sz)) 1 6 (cA ad sz) := by
  refine vx_ofW (cc := cX4_run) (maxL := 3) (ret := (some .int)) (by decide) rfl ?_
  intro p e s m args below meth c s₁ B hml hx0 hv
  obtain ⟨rfl, hsz, hz, hP, hK⟩ := hv
  subst hsz
  have X : cX D Y p s m ([.ref (ad 150), .int x1] : List Value).toArray meth c cX4_run 3 RX4 (some .int) := ⟨⟨B.exec, B.bytes, hml, findClass_of_methodNamed B.named, fun w h => atoms_spec (ws := uX4_run) B.pre w (List.mem_cons_of_mem _ h)⟩, B.returns, B.notSynchronized, hK⟩
  have hl := lv_entry ([.ref (ad 150), .int x1]) (n := 3) (Nat.le_of_ble_eq_true rfl)
  rw [lg_entry_eq]
  generalize (lg_sl ([.ref (ad 150), .int x1]) ++ List.replicate (3 - (lg_sl ([.ref (ad 150), .int x1])).length) Slot.unset).toArray = ls at hl ⊢
  have hl : lv_has ls 3 [(0, .ref (ad 150)), (1, .int x1)] := hl
  exact w4_run_0 X hI hl0 ⟨List.eq_nil_iff_forall_not_mem.mpr (fun x h => hx0 x h), hz⟩ ⟨hP, va_S.rf⟩ (lv_sub hl [0, 1] rfl) hf
/-! OreRailway.append(I)I -/
def rm4_append : Room := { frames := 7, cells := 2, slots := 12, locals := 110 }
def f4_append_0 (x1 : Int32) (mu : Nat → Nat → Int32) : Option (Int32 × Int32 × (Nat → Nat → Int32)) := Option.bind (f4_isWithin_0 x1 33 126) (fun t1 => if t1 = 0 then (some (2, 0, mu)) else (Option.bind (f2_addSign_0 ((x1.toUInt32 % 65536).toInt32) (mu 12)) (fun t3 => if t3.1 = 0 then (some (3, 0, s1 mu 12 t3.2)) else (some (0, (s1 mu 12 t3.2) 12 60, s1 mu 12 t3.2)))))
set_option maxRecDepth 100000 in
set_option maxHeartbeats 4000000 in
theorem w4_append_0 {p : Program} {l : Launch} {e : Env} {s : State} {m : MethodId} {args : Array Value} {below : List Frame} {meth : Method} {c : Code} {D : va_G} {Y : cYt} {ad : Nat → Nat} {mu : Nat → Nat → Int32} (X : cX D Y p s m args meth c cX4_append 2 RX4 (some .int)) (hI : cInj ad) (hl0 : l.stackTraces = false) (hZ : c.exceptionTable.toList = [] ∧ zx (cA ad s.heap.size) s)  {x1 : Int32} {t : Int32 × Int32 × (Nat → Nat → Int32)}  {H : Heap} {locs : List Loc} (hH : cH D Y ad mu s H locs) {ls : Array Slot} (hl : lv_has ls 2 [(0, .ref (ad 150)), (1, .int x1)]) (hf : f4_append_0 x1 mu = some t) : W p l e rm4_append s m args below meth c H locs 0 0 (vx_MQ below (va_Qi (fun (r9 : Int32) (_ : Unit) => r9 = t.2.1 ∧ t.1 = 0) (fun _ t9 => cB D Y ad t.2.2 t9) (cA ad s.heap.size)) (vx_X (fun (_ : Unit) => ¬ t.1 = 0) (fun E _ t9 => E = xn t.1 ∧ cB D Y ad t.2.2 t9) (cA ad s.heap.size)) args s 2 12 (cA ad s.heap.size)) (F0 m 0 ls []) := by
  obtain ⟨⟨hx, hb, hml, hown, hts⟩, hr, hlk, hK⟩ := id X
  replace hf : (Option.bind (f4_isWithin_0 x1 33 126) (fun t1 => if t1 = 0 then (some (2, 0, mu)) else (Option.bind (f2_addSign_0 ((x1.toUInt32 % 65536).toInt32) (mu 12)) (fun t3 => if t3.1 = 0 then (some (3, 0, s1 mu 12 t3.2)) else (some (0, (s1 mu 12 t3.2) 12 60, s1 mu 12 t3.2)))))) = some t := hf
  refine lv_iload_n hx hb dX4_append_0 rfl (lv_at hl 1 rfl) ?_
  refine lv_bipush (v := 33) hx hb dX4_append_1 (by decide) ?_
  refine lv_bipush (v := 126) hx hb dX4_append_3 (by decide) ?_
  obtain ⟨t1, ht1, hf⟩ := bd_o hf
  refine k4_isWithin X.1 hl.1 qX4_45 ⟨Nat.le_of_ble_eq_true rfl, Nat.le_of_ble_eq_true rfl⟩ ht1 (Nat.le_of_ble_eq_true rfl) dX4_append_5 ⟨Nat.le_of_ble_eq_true rfl, Nat.le_of_ble_eq_true rfl⟩ ?_
  refine rq_2 X hl0 hZ hH hl.1 qX4_49 ⟨Nat.le_of_ble_eq_true rfl, Nat.le_of_ble_eq_true rfl⟩ dX4_append_8 ⟨Nat.le_of_ble_eq_true rfl, Nat.le_of_ble_eq_true rfl⟩ ⟨Nat.le_of_ble_eq_true rfl, Nat.le_of_ble_eq_true rfl⟩ (fun c2 => ?_) (fun c2 => ?_)
  · have hf := it_t c2 hf
    obtain rfl := so_i hf
    exact ⟨rfl, rfl⟩
  have hf := it_f c2 hf
  refine lv_aload_n hx hb dX4_append_11 rfl (lv_at hl 0 rfl) ?_
  refine cr_gRa X hH.1 (i := 5) (v := .ref (ad 155)) (by decide) gfX4_37 rfl dX4_append_12 ?_
  refine lv_iload_n hx hb dX4_append_15 rfl (lv_at hl 1 rfl) ?_
  refine lv_i2c hx hb dX4_append_16 rfl ?_
  obtain ⟨t3, ht3, hf⟩ := bd_o hf
  refine km2_addSign X hI hH hl.1 qX4_118 ⟨Nat.le_of_ble_eq_true rfl, Nat.le_of_ble_eq_true rfl⟩ ht3 (Nat.le_of_ble_eq_true rfl) dX4_append_17 ⟨Nat.le_of_ble_eq_true rfl, Nat.le_of_ble_eq_true rfl⟩ (fun H locs hH => ?_)
  refine rq_3 X hl0 hZ hH hl.1 qX4_67 ⟨Nat.le_of_ble_eq_true rfl, Nat.le_of_ble_eq_true rfl⟩ dX4_append_20 ⟨Nat.le_of_ble_eq_true rfl, Nat.le_of_ble_eq_true rfl⟩ ⟨Nat.le_of_ble_eq_true rfl, Nat.le_of_ble_eq_true rfl⟩ (fun c4 => ?_) (fun c4 => ?_)
  · have hf := it_t c4 hf
    obtain rfl := so_i hf
    exact ⟨rfl, rfl⟩
  have hf := it_f c4 hf
  refine lv_aload_n hx hb dX4_append_23 rfl (lv_at hl 0 rfl) ?_
  refine cr_gRa X hH.1 (i := 5) (v := .ref (ad 155)) (by decide) gfX4_37 rfl dX4_append_24 ?_
  refine cr_gOr X rfl hH.1 (i := 1) (v := .int ((s1 mu 12 t3.2) 12 60)) (by decide) gfX4_122 rfl dX4_append_27 ?_
  obtain rfl := so_i hf
  exact cx_iw X hH rfl rfl (Nat.le_of_ble_eq_true rfl) (Nat.le_of_ble_eq_true rfl) dX4_append_30
set_option maxRecDepth 100000 in
set_option maxHeartbeats 4000000 in
theorem c4_append (l : Launch) {D : va_G} {Y : cYt} {ad : Nat → Nat} {mu : Nat → Nat → Int32} (hI : cInj ad) (hl0 : l.stackTraces = false) (sz : Nat) (x1 : Int32) {t : Int32 × Int32 × (Nat → Nat → Int32)} (hf : f4_append_0 x1 mu = some t) : vx_Met l yX4_append uX4_append rm4_append (va_Pc [.ref (ad 150), .int x1] (fun U => U.heap.size = sz ∧ zx (cA ad sz) U ∧ cB D Y ad mu U)) (va_Qi (fun (r9 : Int32) (_ : Unit) => r9 = t.2.1 ∧ t.1 = 0) (fun _ t9 => cB D Y ad t.2.2 t9) (cA ad sz)) (vx_X (fun (_ : Unit) => ¬ t.1 = 0) (fun E _ t9 => E = xn t.1 ∧ cB D Y ad t.2.2 t9) (cA ad sz)) 2 12 (cA ad sz) := by
  refine vx_ofW (cc := cX4_append) (maxL := 2) (ret := (some .int)) (by decide) rfl ?_
  intro p e s m args below meth c s₁ B hml hx0 hv
  obtain ⟨rfl, hsz, hz, hP, hK⟩ := hv
  subst hsz
  have X : cX D Y p s m ([.ref (ad 150), .int x1] : List Value).toArray meth c cX4_append 2 RX4 (some .int) := ⟨⟨B.exec, B.bytes, hml, findClass_of_methodNamed B.named, fun w h => atoms_spec (ws := uX4_append) B.pre w (List.mem_cons_of_mem _ h)⟩, B.returns, B.notSynchronized, hK⟩
  have hl := lv_entry ([.ref (ad 150), .int x1]) (n := 2) (Nat.le_of_ble_eq_true rfl)
  rw [lg_entry_eq]
  generalize (lg_sl ([.ref (ad 150), .int x1]) ++ List.replicate (2 - (lg_sl ([.ref (ad 150), .int x1])).length) Slot.unset).toArray = ls at hl ⊢
  have hl : lv_has ls 2 [(0, .ref (ad 150)), (1, .int x1)] := hl
  exact w4_append_0 X hI hl0 ⟨List.eq_nil_iff_forall_not_mem.mpr (fun x h => hx0 x h), hz⟩ ⟨hP, va_S.rf⟩ (lv_sub hl [0, 1] rfl) hf
/-! OreRailway.clearBuffer()I -/
def rm4_clearBuffer : Room := { frames := 0, cells := 0, slots := 0, locals := 0 }
def f4_clearBuffer_0 (mu : Nat → Nat → Int32) : Option (Int32 × (Nat → Nat → Int32)) := some (mu 12 60, s1 mu 12 (upd (mu 12) 60 0))
set_option maxRecDepth 100000 in
set_option maxHeartbeats 4000000 in
theorem w4_clearBuffer_0 {p : Program} {l : Launch} {e : Env} {s : State} {m : MethodId} {args : Array Value} {below : List Frame} {meth : Method} {c : Code} {D : va_G} {Y : cYt} {ad : Nat → Nat} {mu : Nat → Nat → Int32} (X : cX D Y p s m args meth c cX4_clearBuffer 2 RX4 (some .int)) (hI : cInj ad)  {t : Int32 × (Nat → Nat → Int32)}  {H : Heap} {locs : List Loc} (hH : cH D Y ad mu s H locs) {ls : Array Slot} (hl : lv_has ls 2 [(0, .ref (ad 150))]) (hf : f4_clearBuffer_0 mu = some t) : W p l e rm4_clearBuffer s m args below meth c H locs 0 0 (MQ below (va_Qi (fun (r9 : Int32) (_ : Unit) => r9 = t.1) (fun _ t9 => cB D Y ad t.2 t9) (cA ad s.heap.size)) args s 0 0 (cA ad s.heap.size)) (F0 m 0 ls []) := by
  obtain ⟨⟨hx, hb, hml, hown, hts⟩, hr, hlk, hK⟩ := id X
  replace hf : (some (mu 12 60, s1 mu 12 (upd (mu 12) 60 0))) = some t := hf
  refine lv_aload_n hx hb dX4_clearBuffer_0 rfl (lv_at hl 0 rfl) ?_
  refine cr_gRa X hH.1 (i := 5) (v := .ref (ad 155)) (by decide) gfX4_37 rfl dX4_clearBuffer_1 ?_
  refine cr_gOr X rfl hH.1 (i := 1) (v := .int (mu 12 60)) (by decide) gfX4_122 rfl dX4_clearBuffer_4 ?_
  refine lv_istore_n (lv' := [(1, .int (mu 12 60)), (0, .ref (ad 150))]) hx hb dX4_clearBuffer_7 rfl hl (by decide) rfl (fun ls hl => ?_)
  refine lv_aload_n hx hb dX4_clearBuffer_8 rfl (lv_at hl 1 rfl) ?_
  refine cr_gRa X hH.1 (i := 5) (v := .ref (ad 155)) (by decide) gfX4_37 rfl dX4_clearBuffer_9 ?_
  refine lv_iconst (v := 0) hx hb dX4_clearBuffer_12 (by decide) ?_
  refine cv_pOr X hI (cH_in 12 hH) 1 rfl gfX4_122 dX4_clearBuffer_13 (fun H locs hH => ?_)
  refine lv_iload_n hx hb dX4_clearBuffer_16 rfl (lv_at hl 0 rfl) ?_
  obtain rfl := so_i hf
  exact cr_iw X hH rfl dX4_clearBuffer_17
set_option maxRecDepth 100000 in
set_option maxHeartbeats 4000000 in
theorem c4_clearBuffer (l : Launch) {D : va_G} {Y : cYt} {ad : Nat → Nat} {mu : Nat → Nat → Int32} (hI : cInj ad) (sz : Nat) {t : Int32 × (Nat → Nat → Int32)} (hf : f4_clearBuffer_0 mu = some t) : Met l yX4_clearBuffer uX4_clearBuffer rm4_clearBuffer (va_Pc [.ref (ad 150)] (fun U => U.heap.size = sz ∧ cB D Y ad mu U)) (va_Qi (fun (r9 : Int32) (_ : Unit) => r9 = t.1) (fun _ t9 => cB D Y ad t.2 t9) (cA ad sz)) 0 0 (cA ad sz) := by
  refine Met.ofW (cc := cX4_clearBuffer) (maxL := 2) (ret := (some .int)) (by decide) rfl ?_
  intro p e s m args below meth c s₁ B hml hv
  obtain ⟨rfl, hsz, hP, hK⟩ := hv
  subst hsz
  have X : cX D Y p s m ([.ref (ad 150)] : List Value).toArray meth c cX4_clearBuffer 2 RX4 (some .int) := ⟨⟨B.exec, B.bytes, hml, findClass_of_methodNamed B.named, fun w h => atoms_spec (ws := uX4_clearBuffer) B.pre w (List.mem_cons_of_mem _ h)⟩, B.returns, B.notSynchronized, hK⟩
  have hl := lv_entry ([.ref (ad 150)]) (n := 2) (Nat.le_of_ble_eq_true rfl)
  rw [lg_entry_eq]
  generalize (lg_sl ([.ref (ad 150)]) ++ List.replicate (2 - (lg_sl ([.ref (ad 150)])).length) Slot.unset).toArray = ls at hl ⊢
  have hl : lv_has ls 2 [(0, .ref (ad 150))] := hl
  exact w4_clearBuffer_0 X hI ⟨hP, va_S.rf⟩ (lv_sub hl [0] rfl) hf
set_option maxRecDepth 100000 in
set_option maxHeartbeats 4000000 in
theorem k4_clearBuffer {p : Program} {l : Launch} {e : Env} {R : Room} {s : State} {m : MethodId} {args : Array Value} {below : List Frame} {meth : Method} {c : Code} {cc : ByteArray} {nL : Nat} {own : String} {ret : Option FieldType} {D : va_G} {Y : cYt} {ad : Nat → Nat} {mu : Nat → Nat → Int32} {H : Heap} {locs : List Loc} {cells slots : Nat} {Q : State → Prop} {pc : Nat} {ls : Array Slot} {rest : List Value} (X : cX D Y p s m args meth c cc nL own ret) (hI : cInj ad) (hH : cH D Y ad mu s H locs) (hls : ls.size = nL) {index : Nat} (hG : GoodIn gw (wsV own index RX4 yX4_clearBuffer uX4_clearBuffer)) (hR : rm4_clearBuffer.frames + 1 ≤ R.frames ∧ 8 + (2 + 11) + rm4_clearBuffer.locals ≤ R.locals) {t : Int32 × (Nat → Nat → Int32)} (hf : f4_clearBuffer_0 mu = some t) (hrest : (rest.map fun v => v.category).sum ≤ 8) (hdg : decode cc pc = .ok (.invokevirtual index, 3)) (hc : cells ≤ R.cells ∧ slots ≤ R.slots) (kk : ∀ (H1 : Heap) (locs1 : List Loc), cH D Y ad t.2 s H1 locs1 → W p l e R s m args below meth c H1 locs1 cells slots Q (F0 m (pc + 3) ls (.int t.1 :: rest))) : W p l e R s m args below meth c H locs cells slots Q (F0 m pc ls (.ref (ad 150) :: rest)) := by
  have hA : ∀ q, cA ad H.size q → cA ad s.heap.size q := fun q h => h.elim Or.inl (fun h => Or.inr (Nat.le_trans hH.2.1 h))
  refine va_calli (va_runV (As := []) (rest := rest) X.1 (c4_clearBuffer l hI H.size hf) (cwV 0 X.1.2.2.2.2 hG rfl rfl rfl (by decide +kernel) hR) ⟨cBs_bl, va_recv X.2.2.2 hH.1 (ci := 4) (q0 := 150) rfl (cw_ate (by omega) rfl), fun U hU hW => ⟨rfl, by rw [hU], by rw [hU]; exact hH.1, va_K.moved hW.alike X.2.2.2⟩⟩ rfl rfl hls rfl (lv_room hrest) hdg hc) hH.2 (fun q _ h => hA q h) hA (fun r9 u t9 H1 locs1 ht hvm hw hB hz1 hk1 hS => ?_)
  subst hw
  exact kk H1 locs1 ⟨by rw [← ht]; exact hB.1, hS⟩
/-! OreRailway.firstError()I -/
def rm4_firstError : Room := { frames := 4, cells := 0, slots := 0, locals := 87 }
def f4_firstError_0 (mu : Nat → Nat → Int32) : Option (Int32) := Option.bind (f2_errorIndex_0 (mu 12)) (fun t1 => some t1)
set_option maxRecDepth 100000 in
set_option maxHeartbeats 4000000 in
theorem w4_firstError_0 {p : Program} {l : Launch} {e : Env} {s : State} {m : MethodId} {args : Array Value} {below : List Frame} {meth : Method} {c : Code} {D : va_G} {Y : cYt} {ad : Nat → Nat} {mu : Nat → Nat → Int32} (X : cX D Y p s m args meth c cX4_firstError 1 RX4 (some .int)) (hP : va_P D vwCl (cwW Y ad mu) s.heap) {t : Int32}  {ls : Array Slot} (hl : lv_has ls 1 [(0, .ref (ad 150))]) (hf : f4_firstError_0 mu  = some t) : W p l e rm4_firstError s m args below meth c s.heap [] 0 0 (MQ below (QcRead t) args s 0 0 (fun _ => False)) (F0 m 0 ls []) := by
  obtain ⟨⟨hx, hb, hml, hown, hts⟩, hr, hlk, hK⟩ := id X
  replace hf : (Option.bind (f2_errorIndex_0 (mu 12)) (fun t1 => some t1)) = some t := hf
  refine lv_aload_n hx hb dX4_firstError_0 rfl (lv_at hl 0 rfl) ?_
  refine cr_gRa X hP (i := 5) (v := .ref (ad 155)) (by decide) gfX4_37 rfl dX4_firstError_1 ?_
  obtain ⟨t1, ht1, hf⟩ := bd_o hf
  refine k2_errorIndex X rfl hP hl.1 qX4_125 ⟨Nat.le_of_ble_eq_true rfl, Nat.le_of_ble_eq_true rfl⟩ ht1 (Nat.le_of_ble_eq_true rfl) dX4_firstError_4 ⟨Nat.le_of_ble_eq_true rfl, Nat.le_of_ble_eq_true rfl⟩ ?_
  obtain rfl := so_i hf
  exact rd_i hx hb hr hlk dX4_firstError_7
set_option maxRecDepth 100000 in
set_option maxHeartbeats 4000000 in
theorem c4_firstError (l : Launch) {D : va_G} {Y : cYt} {ad : Nat → Nat} {mu : Nat → Nat → Int32} {t : Int32} (hf : f4_firstError_0 mu = some t) : Met l yX4_firstError uX4_firstError rm4_firstError (va_Pc [.ref (ad 150)] (cB D Y ad mu)) (QcRead t) 0 0 (fun _ => False) := by
  refine Met.ofW (cc := cX4_firstError) (maxL := 1) (ret := (some .int)) (by decide) rfl ?_
  intro p e s m args below meth c s₁ B hml hv
  obtain ⟨rfl, hP, hK⟩ := hv
  have X : cX D Y p s m ([.ref (ad 150)] : List Value).toArray meth c cX4_firstError 1 RX4 (some .int) := ⟨⟨B.exec, B.bytes, hml, findClass_of_methodNamed B.named, fun w h => atoms_spec (ws := uX4_firstError) B.pre w (List.mem_cons_of_mem _ h)⟩, B.returns, B.notSynchronized, hK⟩
  have hl := lv_entry ([.ref (ad 150)]) (n := 1) (Nat.le_of_ble_eq_true rfl)
  rw [lg_entry_eq]
  generalize (lg_sl ([.ref (ad 150)]) ++ List.replicate (1 - (lg_sl ([.ref (ad 150)])).length) Slot.unset).toArray = ls at hl ⊢
  have hl : lv_has ls 1 [(0, .ref (ad 150))] := hl
  exact w4_firstError_0 X hP (lv_sub hl [0] rfl) hf
set_option maxRecDepth 100000 in
set_option maxHeartbeats 4000000 in
theorem k4_firstError {p : Program} {l : Launch} {e : Env} {R : Room} {s : State} {m : MethodId} {args : Array Value} {below : List Frame} {meth : Method} {c : Code} {cc : ByteArray} {nL : Nat} {own : String} {ret : Option FieldType} {D : va_G} {Y : cYt} {ad : Nat → Nat} {mu : Nat → Nat → Int32} {H : Heap} {locs : List Loc} {cells slots : Nat} {Q : State → Prop} {pc : Nat} {ls : Array Slot} {rest : List Value} (X : cX D Y p s m args meth c cc nL own ret) (hP : va_P D vwCl (cwW Y ad mu) H) (hls : ls.size = nL) {index : Nat} (hG : GoodIn gw (wsV own index RX4 yX4_firstError uX4_firstError)) (hR : rm4_firstError.frames + 1 ≤ R.frames ∧ 8 + (1 + 11) + rm4_firstError.locals ≤ R.locals) {t : Int32} (hf : f4_firstError_0 mu = some t) (hrest : (rest.map fun v => v.category).sum ≤ 8) (hdg : decode cc pc = .ok (.invokevirtual index, 3)) (hc : cells ≤ R.cells ∧ slots ≤ R.slots) (kk : W p l e R s m args below meth c H locs cells slots Q (F0 m (pc + 3) ls (.int t :: rest))) : W p l e R s m args below meth c H locs cells slots Q (F0 m pc ls (.ref (ad 150) :: rest)) :=
  W.callR (W.runV (As := []) X.1 (c4_firstError l hf) (cwV 0 X.1.2.2.2.2 hG rfl rfl rfl (by decide +kernel) hR) ⟨cB_bl, va_recv X.2.2.2 hP (ci := 4) (q0 := 150) rfl (cw_ate (by omega) rfl), fun U hU hW => ⟨rfl, by rw [hU]; exact hP, va_K.moved hW.alike X.2.2.2⟩⟩ rfl rfl hls rfl (lv_room hrest) hdg hc) kk
/-! OreRailway.performOn(ICI)Z -/
def rm4_performOn : Room := { frames := 4, cells := 0, slots := 0, locals := 87 }
def f4_performOn_106 (mu : Nat → Nat → Int32) : Option (Int32 × (Nat → Nat → Int32)) := some (0, mu)
set_option maxRecDepth 100000 in
set_option maxHeartbeats 4000000 in
theorem w4_performOn_106 {p : Program} {l : Launch} {e : Env} {s : State} {m : MethodId} {args : Array Value} {below : List Frame} {meth : Method} {c : Code} {D : va_G} {Y : cYt} {ad : Nat → Nat} {mu : Nat → Nat → Int32} (X : cX D Y p s m args meth c cX4_performOn 4 RX4 (some .boolean)) (hI : cInj ad)  {t : Int32 × (Nat → Nat → Int32)}  {H : Heap} {locs : List Loc} (hH : cH D Y ad mu s H locs) {ls : Array Slot} (hl : lv_has ls 4 []) (hf : f4_performOn_106 mu = some t) : W p l e rm4_performOn s m args below meth c H locs 0 0 (MQ below (va_Qi (fun (r9 : Int32) (_ : Unit) => r9 = t.1) (fun _ t9 => cB D Y ad t.2 t9) (cA ad s.heap.size)) args s 0 0 (cA ad s.heap.size)) (F0 m 106 ls []) := by
  obtain ⟨⟨hx, hb, hml, hown, hts⟩, hr, hlk, hK⟩ := id X
  replace hf : (some (0, mu)) = some t := hf
  refine lv_iconst (v := 0) hx hb dX4_performOn_106 (by decide) ?_
  obtain rfl := so_i hf
  exact cr_zw X hH rfl (nz_z (Or.inl rfl)) dX4_performOn_107
def f4_performOn_77 (x1 : Int32) (x2 : Int32) (x3 : Int32) (mu : Nat → Nat → Int32) : Option (Int32 × (Nat → Nat → Int32)) := if x2 = 98 then (Option.bind (f3_isRolling_0 (mu 0) x1) (fun t2 => if t2 = 0 then (f4_performOn_106 mu) else (Option.bind (f3_changeBrake_0 x1 x3 (mu 0)) (fun t4 => some (1, s1 mu 0 t4.2))))) else (f4_performOn_106 mu)
set_option maxRecDepth 100000 in
set_option maxHeartbeats 4000000 in
theorem w4_performOn_77 {p : Program} {l : Launch} {e : Env} {s : State} {m : MethodId} {args : Array Value} {below : List Frame} {meth : Method} {c : Code} {D : va_G} {Y : cYt} {ad : Nat → Nat} {mu : Nat → Nat → Int32} (X : cX D Y p s m args meth c cX4_performOn 4 RX4 (some .boolean)) (hI : cInj ad)  {x1 : Int32} {x2 : Int32} {x3 : Int32} {t : Int32 × (Nat → Nat → Int32)}  {H : Heap} {locs : List Loc} (hH : cH D Y ad mu s H locs) {ls : Array Slot} (hl : lv_has ls 4 [(0, .ref (ad 150)), (1, .int x1), (2, .int x2), (3, .int x3)]) (hf : f4_performOn_77 x1 x2 x3 mu = some t) : W p l e rm4_performOn s m args below meth c H locs 0 0 (MQ below (va_Qi (fun (r9 : Int32) (_ : Unit) => r9 = t.1) (fun _ t9 => cB D Y ad t.2 t9) (cA ad s.heap.size)) args s 0 0 (cA ad s.heap.size)) (F0 m 77 ls []) := by
  obtain ⟨⟨hx, hb, hml, hown, hts⟩, hr, hlk, hK⟩ := id X
  replace hf : (if x2 = 98 then (Option.bind (f3_isRolling_0 (mu 0) x1) (fun t2 => if t2 = 0 then (f4_performOn_106 mu) else (Option.bind (f3_changeBrake_0 x1 x3 (mu 0)) (fun t4 => some (1, s1 mu 0 t4.2))))) else (f4_performOn_106 mu)) = some t := hf
  refine lv_iload_n hx hb dX4_performOn_77 rfl (lv_at hl 2 rfl) ?_
  refine lv_bipush (v := 98) hx hb dX4_performOn_78 (by decide) ?_
  refine lv_icmp_ne (tgt := 106) hx hb dX4_performOn_80 (by decide) (fun c1 => ?_) (fun c1 => ?_)
  · have hf := it_f c1 hf
    exact w4_performOn_106 X hI hH (lv_sub hl [] rfl) hf
  · have hf := it_t c1 hf
    refine lv_aload_n hx hb dX4_performOn_83 rfl (lv_at hl 0 rfl) ?_
    refine cr_gRa X hH.1 (i := 0) (v := .ref (ad (15 * 0))) (by decide) gfX4_10 rfl dX4_performOn_84 ?_
    refine lv_iload_n hx hb dX4_performOn_87 rfl (lv_at hl 1 rfl) ?_
    obtain ⟨t2, ht2, hf⟩ := bd_o hf
    refine k3_isRolling X (k := 0) (by omega) rfl hH.1 hl.1 qX4_92 ⟨Nat.le_of_ble_eq_true rfl, Nat.le_of_ble_eq_true rfl⟩ ht2 (Nat.le_of_ble_eq_true rfl) dX4_performOn_88 ⟨Nat.le_of_ble_eq_true rfl, Nat.le_of_ble_eq_true rfl⟩ ?_
    refine lv_if_eq (tgt := 106) hx hb dX4_performOn_91 (by decide) (fun c3 => ?_) (fun c3 => ?_)
    · have hf := it_t c3 hf
      exact w4_performOn_106 X hI hH (lv_sub hl [] rfl) hf
    · have hf := it_f c3 hf
      refine lv_aload_n hx hb dX4_performOn_94 rfl (lv_at hl 0 rfl) ?_
      refine cr_gRa X hH.1 (i := 0) (v := .ref (ad (15 * 0))) (by decide) gfX4_10 rfl dX4_performOn_95 ?_
      refine lv_iload_n hx hb dX4_performOn_98 rfl (lv_at hl 1 rfl) ?_
      refine lv_iload_n hx hb dX4_performOn_99 rfl (lv_at hl 3 rfl) ?_
      obtain ⟨t4, ht4, hf⟩ := bd_o hf
      refine km3_changeBrake X hI (k := 0) (by omega) hH hl.1 qX4_95 ⟨Nat.le_of_ble_eq_true rfl, Nat.le_of_ble_eq_true rfl⟩ ht4 (Nat.le_of_ble_eq_true rfl) dX4_performOn_100 ⟨Nat.le_of_ble_eq_true rfl, Nat.le_of_ble_eq_true rfl⟩ (fun H locs hH => ?_)
      refine lv_pop hx hb dX4_performOn_103 rfl ?_
      refine lv_iconst (v := 1) hx hb dX4_performOn_104 (by decide) ?_
      obtain rfl := so_i hf
      exact cr_zw X hH rfl (nz_z (Or.inr rfl)) dX4_performOn_105
def f4_performOn_46 (y0 : Int32) (mu : Nat → Nat → Int32) : Option (Int32 × (Nat → Nat → Int32)) := gz y0 (some (y0, mu))
set_option maxRecDepth 100000 in
set_option maxHeartbeats 4000000 in
theorem w4_performOn_46 {p : Program} {l : Launch} {e : Env} {s : State} {m : MethodId} {args : Array Value} {below : List Frame} {meth : Method} {c : Code} {D : va_G} {Y : cYt} {ad : Nat → Nat} {mu : Nat → Nat → Int32} (X : cX D Y p s m args meth c cX4_performOn 4 RX4 (some .boolean)) (hI : cInj ad)  {y0 : Int32} {t : Int32 × (Nat → Nat → Int32)}  {H : Heap} {locs : List Loc} (hH : cH D Y ad mu s H locs) {ls : Array Slot} (hl : lv_has ls 4 []) (hf : f4_performOn_46 y0 mu = some t) : W p l e rm4_performOn s m args below meth c H locs 0 0 (MQ below (va_Qi (fun (r9 : Int32) (_ : Unit) => r9 = t.1) (fun _ t9 => cB D Y ad t.2 t9) (cA ad s.heap.size)) args s 0 0 (cA ad s.heap.size)) (F0 m 46 ls [.int y0]) := by
  obtain ⟨⟨hx, hb, hml, hown, hts⟩, hr, hlk, hK⟩ := id X
  replace hf : (gz y0 (some (y0, mu))) = some t := hf
  obtain ⟨hz, hf⟩ := gz_o hf
  obtain rfl := so_i hf
  exact cr_zw X hH rfl (nz_z hz) dX4_performOn_46
def f4_performOn_23 (y0 : Int32) (mu : Nat → Nat → Int32) : Option (Int32 × (Nat → Nat → Int32)) := gz y0 (some (y0, mu))
set_option maxRecDepth 100000 in
set_option maxHeartbeats 4000000 in
theorem w4_performOn_23 {p : Program} {l : Launch} {e : Env} {s : State} {m : MethodId} {args : Array Value} {below : List Frame} {meth : Method} {c : Code} {D : va_G} {Y : cYt} {ad : Nat → Nat} {mu : Nat → Nat → Int32} (X : cX D Y p s m args meth c cX4_performOn 4 RX4 (some .boolean)) (hI : cInj ad)  {y0 : Int32} {t : Int32 × (Nat → Nat → Int32)}  {H : Heap} {locs : List Loc} (hH : cH D Y ad mu s H locs) {ls : Array Slot} (hl : lv_has ls 4 []) (hf : f4_performOn_23 y0 mu = some t) : W p l e rm4_performOn s m args below meth c H locs 0 0 (MQ below (va_Qi (fun (r9 : Int32) (_ : Unit) => r9 = t.1) (fun _ t9 => cB D Y ad t.2 t9) (cA ad s.heap.size)) args s 0 0 (cA ad s.heap.size)) (F0 m 23 ls [.int y0]) := by
  obtain ⟨⟨hx, hb, hml, hown, hts⟩, hr, hlk, hK⟩ := id X
  replace hf : (gz y0 (some (y0, mu))) = some t := hf
  obtain ⟨hz, hf⟩ := gz_o hf
  obtain rfl := so_i hf
  exact cr_zw X hH rfl (nz_z hz) dX4_performOn_23
def f4_performOn_0 (x1 : Int32) (x2 : Int32) (x3 : Int32) (mu : Nat → Nat → Int32) : Option (Int32 × (Nat → Nat → Int32)) := if x2 = 114 then (Option.bind (f3_letRoll_0 x1 x3 (mu 0)) (fun t9 => if t9.1 = 0 then (f4_performOn_23 1 (s1 mu 0 t9.2)) else (f4_performOn_23 0 (s1 mu 0 t9.2)))) else (if x2 = 109 then (Option.bind (f3_harnessMule_0 x1 (mu 0)) (fun t7 => if t7.1 = 0 then (f4_performOn_46 1 (s1 mu 0 t7.2)) else (f4_performOn_46 0 (s1 mu 0 t7.2)))) else (if x2 = 108 then (Option.bind (f3_canLoad_0 (mu 0) x1 x3) (fun t4 => if t4 = 0 then (f4_performOn_77 x1 x2 x3 mu) else (Option.bind (f3_addOre_0 x1 x3 (mu 0)) (fun t6 => some (1, s1 mu 0 t6.2))))) else (f4_performOn_77 x1 x2 x3 mu)))
set_option maxRecDepth 100000 in
set_option maxHeartbeats 4000000 in
theorem w4_performOn_0 {p : Program} {l : Launch} {e : Env} {s : State} {m : MethodId} {args : Array Value} {below : List Frame} {meth : Method} {c : Code} {D : va_G} {Y : cYt} {ad : Nat → Nat} {mu : Nat → Nat → Int32} (X : cX D Y p s m args meth c cX4_performOn 4 RX4 (some .boolean)) (hI : cInj ad)  {x1 : Int32} {x2 : Int32} {x3 : Int32} {t : Int32 × (Nat → Nat → Int32)}  {H : Heap} {locs : List Loc} (hH : cH D Y ad mu s H locs) {ls : Array Slot} (hl : lv_has ls 4 [(0, .ref (ad 150)), (1, .int x1), (2, .int x2), (3, .int x3)]) (hf : f4_performOn_0 x1 x2 x3 mu = some t) : W p l e rm4_performOn s m args below meth c H locs 0 0 (MQ below (va_Qi (fun (r9 : Int32) (_ : Unit) => r9 = t.1) (fun _ t9 => cB D Y ad t.2 t9) (cA ad s.heap.size)) args s 0 0 (cA ad s.heap.size)) (F0 m 0 ls []) := by
  obtain ⟨⟨hx, hb, hml, hown, hts⟩, hr, hlk, hK⟩ := id X
  replace hf : (if x2 = 114 then (Option.bind (f3_letRoll_0 x1 x3 (mu 0)) (fun t9 => if t9.1 = 0 then (f4_performOn_23 1 (s1 mu 0 t9.2)) else (f4_performOn_23 0 (s1 mu 0 t9.2)))) else (if x2 = 109 then (Option.bind (f3_harnessMule_0 x1 (mu 0)) (fun t7 => if t7.1 = 0 then (f4_performOn_46 1 (s1 mu 0 t7.2)) else (f4_performOn_46 0 (s1 mu 0 t7.2)))) else (if x2 = 108 then (Option.bind (f3_canLoad_0 (mu 0) x1 x3) (fun t4 => if t4 = 0 then (f4_performOn_77 x1 x2 x3 mu) else (Option.bind (f3_addOre_0 x1 x3 (mu 0)) (fun t6 => some (1, s1 mu 0 t6.2))))) else (f4_performOn_77 x1 x2 x3 mu)))) = some t := hf
  refine lv_iload_n hx hb dX4_performOn_0 rfl (lv_at hl 2 rfl) ?_
  refine lv_bipush (v := 114) hx hb dX4_performOn_1 (by decide) ?_
  refine lv_icmp_ne (tgt := 24) hx hb dX4_performOn_3 (by decide) (fun c1 => ?_) (fun c1 => ?_)
  · have hf := it_f c1 hf
    refine lv_iload_n hx hb dX4_performOn_24 rfl (lv_at hl 2 rfl) ?_
    refine lv_bipush (v := 109) hx hb dX4_performOn_25 (by decide) ?_
    refine lv_icmp_ne (tgt := 47) hx hb dX4_performOn_27 (by decide) (fun c2 => ?_) (fun c2 => ?_)
    · have hf := it_f c2 hf
      refine lv_iload_n hx hb dX4_performOn_47 rfl (lv_at hl 2 rfl) ?_
      refine lv_bipush (v := 108) hx hb dX4_performOn_48 (by decide) ?_
      refine lv_icmp_ne (tgt := 77) hx hb dX4_performOn_50 (by decide) (fun c3 => ?_) (fun c3 => ?_)
      · have hf := it_f c3 hf
        exact w4_performOn_77 X hI hH (lv_sub hl [0, 1, 2, 3] rfl) hf
      · have hf := it_t c3 hf
        refine lv_aload_n hx hb dX4_performOn_53 rfl (lv_at hl 0 rfl) ?_
        refine cr_gRa X hH.1 (i := 0) (v := .ref (ad (15 * 0))) (by decide) gfX4_10 rfl dX4_performOn_54 ?_
        refine lv_iload_n hx hb dX4_performOn_57 rfl (lv_at hl 1 rfl) ?_
        refine lv_iload_n hx hb dX4_performOn_58 rfl (lv_at hl 3 rfl) ?_
        obtain ⟨t4, ht4, hf⟩ := bd_o hf
        refine k3_canLoad X (k := 0) (by omega) rfl hH.1 hl.1 qX4_81 ⟨Nat.le_of_ble_eq_true rfl, Nat.le_of_ble_eq_true rfl⟩ ht4 (Nat.le_of_ble_eq_true rfl) dX4_performOn_59 ⟨Nat.le_of_ble_eq_true rfl, Nat.le_of_ble_eq_true rfl⟩ ?_
        refine lv_if_eq (tgt := 77) hx hb dX4_performOn_62 (by decide) (fun c5 => ?_) (fun c5 => ?_)
        · have hf := it_t c5 hf
          exact w4_performOn_77 X hI hH (lv_sub hl [0, 1, 2, 3] rfl) hf
        · have hf := it_f c5 hf
          refine lv_aload_n hx hb dX4_performOn_65 rfl (lv_at hl 0 rfl) ?_
          refine cr_gRa X hH.1 (i := 0) (v := .ref (ad (15 * 0))) (by decide) gfX4_10 rfl dX4_performOn_66 ?_
          refine lv_iload_n hx hb dX4_performOn_69 rfl (lv_at hl 1 rfl) ?_
          refine lv_iload_n hx hb dX4_performOn_70 rfl (lv_at hl 3 rfl) ?_
          obtain ⟨t6, ht6, hf⟩ := bd_o hf
          refine km3_addOre X hI (k := 0) (by omega) hH hl.1 qX4_85 ⟨Nat.le_of_ble_eq_true rfl, Nat.le_of_ble_eq_true rfl⟩ ht6 (Nat.le_of_ble_eq_true rfl) dX4_performOn_71 ⟨Nat.le_of_ble_eq_true rfl, Nat.le_of_ble_eq_true rfl⟩ (fun H locs hH => ?_)
          refine lv_pop hx hb dX4_performOn_74 rfl ?_
          refine lv_iconst (v := 1) hx hb dX4_performOn_75 (by decide) ?_
          obtain rfl := so_i hf
          exact cr_zw X hH rfl (nz_z (Or.inr rfl)) dX4_performOn_76
    · have hf := it_t c2 hf
      refine lv_aload_n hx hb dX4_performOn_30 rfl (lv_at hl 0 rfl) ?_
      refine cr_gRa X hH.1 (i := 0) (v := .ref (ad (15 * 0))) (by decide) gfX4_10 rfl dX4_performOn_31 ?_
      refine lv_iload_n hx hb dX4_performOn_34 rfl (lv_at hl 1 rfl) ?_
      obtain ⟨t7, ht7, hf⟩ := bd_o hf
      refine km3_harnessMule X hI (k := 0) (by omega) hH hl.1 qX4_98 ⟨Nat.le_of_ble_eq_true rfl, Nat.le_of_ble_eq_true rfl⟩ ht7 (Nat.le_of_ble_eq_true rfl) dX4_performOn_35 ⟨Nat.le_of_ble_eq_true rfl, Nat.le_of_ble_eq_true rfl⟩ (fun H locs hH => ?_)
      refine lv_if_ne (tgt := 45) hx hb dX4_performOn_38 (by decide) (fun c8 => ?_) (fun c8 => ?_)
      · have hf := it_f c8 hf
        refine lv_iconst (v := 0) hx hb dX4_performOn_45 (by decide) ?_
        exact w4_performOn_46 X hI hH (lv_sub hl [] rfl) hf
      · have hf := it_t c8 hf
        refine lv_iconst (v := 1) hx hb dX4_performOn_41 (by decide) ?_
        refine lv_goto (tgt := 46) hx hb dX4_performOn_42 (by decide) ?_
        exact w4_performOn_46 X hI hH (lv_sub hl [] rfl) hf
  · have hf := it_t c1 hf
    refine lv_aload_n hx hb dX4_performOn_6 rfl (lv_at hl 0 rfl) ?_
    refine cr_gRa X hH.1 (i := 0) (v := .ref (ad (15 * 0))) (by decide) gfX4_10 rfl dX4_performOn_7 ?_
    refine lv_iload_n hx hb dX4_performOn_10 rfl (lv_at hl 1 rfl) ?_
    refine lv_iload_n hx hb dX4_performOn_11 rfl (lv_at hl 3 rfl) ?_
    obtain ⟨t9, ht9, hf⟩ := bd_o hf
    refine km3_letRoll X hI (k := 0) (by omega) hH hl.1 qX4_89 ⟨Nat.le_of_ble_eq_true rfl, Nat.le_of_ble_eq_true rfl⟩ ht9 (Nat.le_of_ble_eq_true rfl) dX4_performOn_12 ⟨Nat.le_of_ble_eq_true rfl, Nat.le_of_ble_eq_true rfl⟩ (fun H locs hH => ?_)
    refine lv_if_ne (tgt := 22) hx hb dX4_performOn_15 (by decide) (fun c10 => ?_) (fun c10 => ?_)
    · have hf := it_f c10 hf
      refine lv_iconst (v := 0) hx hb dX4_performOn_22 (by decide) ?_
      exact w4_performOn_23 X hI hH (lv_sub hl [] rfl) hf
    · have hf := it_t c10 hf
      refine lv_iconst (v := 1) hx hb dX4_performOn_18 (by decide) ?_
      refine lv_goto (tgt := 23) hx hb dX4_performOn_19 (by decide) ?_
      exact w4_performOn_23 X hI hH (lv_sub hl [] rfl) hf
set_option maxRecDepth 100000 in
set_option maxHeartbeats 4000000 in
theorem c4_performOn (l : Launch) {D : va_G} {Y : cYt} {ad : Nat → Nat} {mu : Nat → Nat → Int32} (hI : cInj ad) (sz : Nat) (x1 : Int32) (x2 : Int32) (x3 : Int32) {t : Int32 × (Nat → Nat → Int32)} (hf : f4_performOn_0 x1 x2 x3 mu = some t) : Met l yX4_performOn uX4_performOn rm4_performOn (va_Pc [.ref (ad 150), .int x1, .int x2, .int x3] (fun U => U.heap.size = sz ∧ cB D Y ad mu U)) (va_Qi (fun (r9 : Int32) (_ : Unit) => r9 = t.1) (fun _ t9 => cB D Y ad t.2 t9) (cA ad sz)) 0 0 (cA ad sz) := by
  refine Met.ofW (cc := cX4_performOn) (maxL := 4) (ret := (some .boolean)) (by decide) rfl ?_
  intro p e s m args below meth c s₁ B hml hv
  obtain ⟨rfl, hsz, hP, hK⟩ := hv
  subst hsz
  have X : cX D Y p s m ([.ref (ad 150), .int x1, .int x2, .int x3] : List Value).toArray meth c cX4_performOn 4 RX4 (some .boolean) := ⟨⟨B.exec, B.bytes, hml, findClass_of_methodNamed B.named, fun w h => atoms_spec (ws := uX4_performOn) B.pre w (List.mem_cons_of_mem _ h)⟩, B.returns, B.notSynchronized, hK⟩
  have hl := lv_entry ([.ref (ad 150), .int x1, .int x2, .int x3]) (n := 4) (Nat.le_of_ble_eq_true rfl)
  rw [lg_entry_eq]
  generalize (lg_sl ([.ref (ad 150), .int x1, .int x2, .int x3]) ++ List.replicate (4 - (lg_sl ([.ref (ad 150), .int x1, .int x2, .int x3])).length) Slot.unset).toArray = ls at hl ⊢
  have hl : lv_has ls 4 [(0, .ref (ad 150)), (1, .int x1), (2, .int x2), (3, .int x3)] := hl
  exact w4_performOn_0 X hI ⟨hP, va_S.rf⟩ (lv_sub hl [0, 1, 2, 3] rfl) hf
set_option maxRecDepth 100000 in
set_option maxHeartbeats 4000000 in
theorem k4_performOn {p : Program} {l : Launch} {e : Env} {R : Room} {s : State} {m : MethodId} {args : Array Value} {below : List Frame} {meth : Method} {c : Code} {cc : ByteArray} {nL : Nat} {own : String} {ret : Option FieldType} {D : va_G} {Y : cYt} {ad : Nat → Nat} {mu : Nat → Nat → Int32} {H : Heap} {locs : List Loc} {cells slots : Nat} {Q : State → Prop} {pc : Nat} {ls : Array Slot} {rest : List Value} (X : cX D Y p s m args meth c cc nL own ret) (hI : cInj ad) (hH : cH D Y ad mu s H locs) (hls : ls.size = nL) {index : Nat} (hG : GoodIn gw (wsV own index RX4 yX4_performOn uX4_performOn)) (hR : rm4_performOn.frames + 1 ≤ R.frames ∧ 8 + (4 + 11) + rm4_performOn.locals ≤ R.locals) {x1 : Int32} {x2 : Int32} {x3 : Int32} {t : Int32 × (Nat → Nat → Int32)} (hf : f4_performOn_0 x1 x2 x3 mu = some t) (hrest : (rest.map fun v => v.category).sum ≤ 8) (hdg : decode cc pc = .ok (.invokevirtual index, 3)) (hc : cells ≤ R.cells ∧ slots ≤ R.slots) (kk : ∀ (H1 : Heap) (locs1 : List Loc), cH D Y ad t.2 s H1 locs1 → W p l e R s m args below meth c H1 locs1 cells slots Q (F0 m (pc + 3) ls (.int t.1 :: rest))) : W p l e R s m args below meth c H locs cells slots Q (F0 m pc ls (.int x3 :: .int x2 :: .int x1 :: .ref (ad 150) :: rest)) := by
  have hA : ∀ q, cA ad H.size q → cA ad s.heap.size q := fun q h => h.elim Or.inl (fun h => Or.inr (Nat.le_trans hH.2.1 h))
  refine va_calli (va_runV (As := [.int x1, .int x2, .int x3]) (rest := rest) X.1 (c4_performOn l hI H.size x1 x2 x3 hf) (cwV 3 X.1.2.2.2.2 hG rfl rfl rfl (by decide +kernel) hR) ⟨cBs_bl, va_recv X.2.2.2 hH.1 (ci := 4) (q0 := 150) rfl (cw_ate (by omega) rfl), fun U hU hW => ⟨rfl, by rw [hU], by rw [hU]; exact hH.1, va_K.moved hW.alike X.2.2.2⟩⟩ rfl rfl hls rfl (lv_room hrest) hdg hc) hH.2 (fun q _ h => hA q h) hA (fun r9 u t9 H1 locs1 ht hvm hw hB hz1 hk1 hS => ?_)
  subst hw
  exact kk H1 locs1 ⟨by rw [← ht]; exact hB.1, hS⟩
/-! OreRailway.perform(II)Z -/
def rm4_perform : Room := { frames := 5, cells := 0, slots := 0, locals := 115 }
def f4_perform_111 (y0 : Int32) (mu : Nat → Nat → Int32) : Option (Int32 × (Nat → Nat → Int32)) := gz y0 (some (y0, mu))
set_option maxRecDepth 100000 in
set_option maxHeartbeats 4000000 in
theorem w4_perform_111 {p : Program} {l : Launch} {e : Env} {s : State} {m : MethodId} {args : Array Value} {below : List Frame} {meth : Method} {c : Code} {D : va_G} {Y : cYt} {ad : Nat → Nat} {mu : Nat → Nat → Int32} (X : cX D Y p s m args meth c cX4_perform 5 RX4 (some .boolean)) (hI : cInj ad)  {y0 : Int32} {t : Int32 × (Nat → Nat → Int32)}  {H : Heap} {locs : List Loc} (hH : cH D Y ad mu s H locs) {ls : Array Slot} (hl : lv_has ls 5 []) (hf : f4_perform_111 y0 mu = some t) : W p l e rm4_perform s m args below meth c H locs 0 0 (MQ below (va_Qi (fun (r9 : Int32) (_ : Unit) => r9 = t.1) (fun _ t9 => cB D Y ad t.2 t9) (cA ad s.heap.size)) args s 0 0 (cA ad s.heap.size)) (F0 m 111 ls [.int y0]) := by
  obtain ⟨⟨hx, hb, hml, hown, hts⟩, hr, hlk, hK⟩ := id X
  replace hf : (gz y0 (some (y0, mu))) = some t := hf
  obtain ⟨hz, hf⟩ := gz_o hf
  obtain rfl := so_i hf
  exact cr_zw X hH rfl (nz_z hz) dX4_perform_111
def f4_perform_110 (mu : Nat → Nat → Int32) : Option (Int32 × (Nat → Nat → Int32)) := f4_perform_111 0 mu
set_option maxRecDepth 100000 in
set_option maxHeartbeats 4000000 in
theorem w4_perform_110 {p : Program} {l : Launch} {e : Env} {s : State} {m : MethodId} {args : Array Value} {below : List Frame} {meth : Method} {c : Code} {D : va_G} {Y : cYt} {ad : Nat → Nat} {mu : Nat → Nat → Int32} (X : cX D Y p s m args meth c cX4_perform 5 RX4 (some .boolean)) (hI : cInj ad)  {t : Int32 × (Nat → Nat → Int32)}  {H : Heap} {locs : List Loc} (hH : cH D Y ad mu s H locs) {ls : Array Slot} (hl : lv_has ls 5 []) (hf : f4_perform_110 mu = some t) : W p l e rm4_perform s m args below meth c H locs 0 0 (MQ below (va_Qi (fun (r9 : Int32) (_ : Unit) => r9 = t.1) (fun _ t9 => cB D Y ad t.2 t9) (cA ad s.heap.size)) args s 0 0 (cA ad s.heap.size)) (F0 m 110 ls []) := by
  obtain ⟨⟨hx, hb, hml, hown, hts⟩, hr, hlk, hK⟩ := id X
  replace hf : (f4_perform_111 0 mu) = some t := hf
  refine lv_iconst (v := 0) hx hb dX4_perform_110 (by decide) ?_
  exact w4_perform_111 X hI hH (lv_sub hl [] rfl) hf
def f4_perform_31 (y0 : Int32) (mu : Nat → Nat → Int32) : Option (Int32 × (Nat → Nat → Int32)) := gz y0 (some (y0, mu))
set_option maxRecDepth 100000 in
set_option maxHeartbeats 4000000 in
theorem w4_perform_31 {p : Program} {l : Launch} {e : Env} {s : State} {m : MethodId} {args : Array Value} {below : List Frame} {meth : Method} {c : Code} {D : va_G} {Y : cYt} {ad : Nat → Nat} {mu : Nat → Nat → Int32} (X : cX D Y p s m args meth c cX4_perform 5 RX4 (some .boolean)) (hI : cInj ad)  {y0 : Int32} {t : Int32 × (Nat → Nat → Int32)}  {H : Heap} {locs : List Loc} (hH : cH D Y ad mu s H locs) {ls : Array Slot} (hl : lv_has ls 5 []) (hf : f4_perform_31 y0 mu = some t) : W p l e rm4_perform s m args below meth c H locs 0 0 (MQ below (va_Qi (fun (r9 : Int32) (_ : Unit) => r9 = t.1) (fun _ t9 => cB D Y ad t.2 t9) (cA ad s.heap.size)) args s 0 0 (cA ad s.heap.size)) (F0 m 31 ls [.int y0]) := by
  obtain ⟨⟨hx, hb, hml, hown, hts⟩, hr, hlk, hK⟩ := id X
  replace hf : (gz y0 (some (y0, mu))) = some t := hf
  obtain ⟨hz, hf⟩ := gz_o hf
  obtain rfl := so_i hf
  exact cr_zw X hH rfl (nz_z hz) dX4_perform_31
def f4_perform_0 (x1 : Int32) (x2 : Int32) (mu : Nat → Nat → Int32) : Option (Int32 × (Nat → Nat → Int32)) := Option.bind (f2_signAt_0 (mu 12) x1) (fun t1 => if t1 = 110 then (Option.bind (f3_addCar_0 (mu 0)) (fun t12 => if t12.1 = ((-1)) then (f4_perform_31 0 (s1 mu 0 t12.2)) else (f4_perform_31 1 (s1 mu 0 t12.2)))) else (if t1 = 116 then (Option.bind (f2_numberAt_0 (mu 12) (x1 + 1) x2) (fun t10 => Option.bind (f3_passTicks_0 t10 (mu 0) (mu (0 + 20))) (fun t11 => some (1, s1 (s1 mu (0 + 20) t11.2) 0 t11.1)))) else (Option.bind (f2_numberAt_0 (mu 12) (x1 + 1) (x1 + 2)) (fun t4 => Option.bind (f3_hasCar_0 (mu 0) t4) (fun t5 => if t5 = 0 then (f4_perform_110 mu) else (Option.bind (f2_numberAt_0 (mu 12) (x1 + 3) x2) (fun t7 => Option.bind (f4_performOn_0 t4 t1 t7 mu) (fun t8 => if t8.1 = 0 then (f4_perform_110 t8.2) else (f4_perform_111 1 t8.2)))))))))
set_option maxRecDepth 100000 in
set_option maxHeartbeats 4000000 in
theorem w4_perform_0 {p : Program} {l : Launch} {e : Env} {s : State} {m : MethodId} {args : Array Value} {below : List Frame} {meth : Method} {c : Code} {D : va_G} {Y : cYt} {ad : Nat → Nat} {mu : Nat → Nat → Int32} (X : cX D Y p s m args meth c cX4_perform 5 RX4 (some .boolean)) (hI : cInj ad)  {x1 : Int32} {x2 : Int32} {t : Int32 × (Nat → Nat → Int32)}  {H : Heap} {locs : List Loc} (hH : cH D Y ad mu s H locs) {ls : Array Slot} (hl : lv_has ls 5 [(0, .ref (ad 150)), (1, .int x1), (2, .int x2)]) (hf : f4_perform_0 x1 x2 mu = some t) : W p l e rm4_perform s m args below meth c H locs 0 0 (MQ below (va_Qi (fun (r9 : Int32) (_ : Unit) => r9 = t.1) (fun _ t9 => cB D Y ad t.2 t9) (cA ad s.heap.size)) args s 0 0 (cA ad s.heap.size)) (F0 m 0 ls []) := by
  obtain ⟨⟨hx, hb, hml, hown, hts⟩, hr, hlk, hK⟩ := id X
  replace hf : (Option.bind (f2_signAt_0 (mu 12) x1) (fun t1 => if t1 = 110 then (Option.bind (f3_addCar_0 (mu 0)) (fun t12 => if t12.1 = ((-1)) then (f4_perform_31 0 (s1 mu 0 t12.2)) else (f4_perform_31 1 (s1 mu 0 t12.2)))) else (if t1 = 116 then (Option.bind (f2_numberAt_0 (mu 12) (x1 + 1) x2) (fun t10 => Option.bind (f3_passTicks_0 t10 (mu 0) (mu (0 + 20))) (fun t11 => some (1, s1 (s1 mu (0 + 20) t11.2) 0 t11.1)))) else (Option.bind (f2_numberAt_0 (mu 12) (x1 + 1) (x1 + 2)) (fun t4 => Option.bind (f3_hasCar_0 (mu 0) t4) (fun t5 => if t5 = 0 then (f4_perform_110 mu) else (Option.bind (f2_numberAt_0 (mu 12) (x1 + 3) x2) (fun t7 => Option.bind (f4_performOn_0 t4 t1 t7 mu) (fun t8 => if t8.1 = 0 then (f4_perform_110 t8.2) else (f4_perform_111 1 t8.2)))))))))) = some t := hf
  refine lv_aload_n hx hb dX4_perform_0 rfl (lv_at hl 0 rfl) ?_
  refine cr_gRa X hH.1 (i := 5) (v := .ref (ad 155)) (by decide) gfX4_37 rfl dX4_perform_1 ?_
  refine lv_iload_n hx hb dX4_perform_4 rfl (lv_at hl 1 rfl) ?_
  obtain ⟨t1, ht1, hf⟩ := bd_o hf
  refine k2_signAt X rfl hH.1 hl.1 qX4_217 ⟨Nat.le_of_ble_eq_true rfl, Nat.le_of_ble_eq_true rfl⟩ ht1 (Nat.le_of_ble_eq_true rfl) dX4_perform_5 ⟨Nat.le_of_ble_eq_true rfl, Nat.le_of_ble_eq_true rfl⟩ ?_
  refine lv_istore_n (lv' := [(3, .int t1), (0, .ref (ad 150)), (1, .int x1), (2, .int x2)]) hx hb dX4_perform_8 rfl hl (by decide) rfl (fun ls hl => ?_)
  refine lv_iload_n hx hb dX4_perform_9 rfl (lv_at hl 0 rfl) ?_
  refine lv_bipush (v := 110) hx hb dX4_perform_10 (by decide) ?_
  refine lv_icmp_ne (tgt := 32) hx hb dX4_perform_12 (by decide) (fun c2 => ?_) (fun c2 => ?_)
  · have hf := it_f c2 hf
    refine lv_iload_n hx hb dX4_perform_32 rfl (lv_at hl 0 rfl) ?_
    refine lv_bipush (v := 116) hx hb dX4_perform_33 (by decide) ?_
    refine lv_icmp_ne (tgt := 58) hx hb dX4_perform_35 (by decide) (fun c3 => ?_) (fun c3 => ?_)
    · have hf := it_f c3 hf
      refine lv_aload_n hx hb dX4_perform_58 rfl (lv_at hl 1 rfl) ?_
      refine cr_gRa X hH.1 (i := 5) (v := .ref (ad 155)) (by decide) gfX4_37 rfl dX4_perform_59 ?_
      refine lv_iload_n hx hb dX4_perform_62 rfl (lv_at hl 2 rfl) ?_
      refine lv_iconst (v := 1) hx hb dX4_perform_63 (by decide) ?_
      refine lv_iadd hx hb dX4_perform_64 ?_
      refine lv_iload_n hx hb dX4_perform_65 rfl (lv_at hl 2 rfl) ?_
      refine lv_iconst (v := 2) hx hb dX4_perform_66 (by decide) ?_
      refine lv_iadd hx hb dX4_perform_67 ?_
      obtain ⟨t4, ht4, hf⟩ := bd_o hf
      refine k2_numberAt X rfl hH.1 hl.1 qX4_221 ⟨Nat.le_of_ble_eq_true rfl, Nat.le_of_ble_eq_true rfl⟩ ht4 (Nat.le_of_ble_eq_true rfl) dX4_perform_68 ⟨Nat.le_of_ble_eq_true rfl, Nat.le_of_ble_eq_true rfl⟩ ?_
      refine lv_istore (lv' := [(4, .int t4), (3, .int t1), (0, .ref (ad 150)), (1, .int x1), (2, .int x2)]) hx hb dX4_perform_71 hl (by decide) rfl (fun ls hl => ?_)
      refine lv_aload_n hx hb dX4_perform_73 rfl (lv_at hl 2 rfl) ?_
      refine cr_gRa X hH.1 (i := 0) (v := .ref (ad (15 * 0))) (by decide) gfX4_10 rfl dX4_perform_74 ?_
      refine lv_iload hx hb dX4_perform_77 (lv_at hl 0 rfl) ?_
      obtain ⟨t5, ht5, hf⟩ := bd_o hf
      refine k3_hasCar X (k := 0) (by omega) rfl hH.1 hl.1 qX4_77 ⟨Nat.le_of_ble_eq_true rfl, Nat.le_of_ble_eq_true rfl⟩ ht5 (Nat.le_of_ble_eq_true rfl) dX4_perform_79 ⟨Nat.le_of_ble_eq_true rfl, Nat.le_of_ble_eq_true rfl⟩ ?_
      refine lv_if_eq (tgt := 110) hx hb dX4_perform_82 (by decide) (fun c6 => ?_) (fun c6 => ?_)
      · have hf := it_t c6 hf
        exact w4_perform_110 X hI hH (lv_sub hl [] rfl) hf
      · have hf := it_f c6 hf
        refine lv_aload_n hx hb dX4_perform_85 rfl (lv_at hl 2 rfl) ?_
        refine lv_iload hx hb dX4_perform_86 (lv_at hl 0 rfl) ?_
        refine lv_iload_n hx hb dX4_perform_88 rfl (lv_at hl 1 rfl) ?_
        refine lv_aload_n hx hb dX4_perform_89 rfl (lv_at hl 2 rfl) ?_
        refine cr_gRa X hH.1 (i := 5) (v := .ref (ad 155)) (by decide) gfX4_37 rfl dX4_perform_90 ?_
        refine lv_iload_n hx hb dX4_perform_93 rfl (lv_at hl 3 rfl) ?_
        refine lv_iconst (v := 3) hx hb dX4_perform_94 (by decide) ?_
        refine lv_iadd hx hb dX4_perform_95 ?_
        refine lv_iload_n hx hb dX4_perform_96 rfl (lv_at hl 4 rfl) ?_
        obtain ⟨t7, ht7, hf⟩ := bd_o hf
        refine k2_numberAt X rfl hH.1 hl.1 qX4_221 ⟨Nat.le_of_ble_eq_true rfl, Nat.le_of_ble_eq_true rfl⟩ ht7 (Nat.le_of_ble_eq_true rfl) dX4_perform_97 ⟨Nat.le_of_ble_eq_true rfl, Nat.le_of_ble_eq_true rfl⟩ ?_
        obtain ⟨t8, ht8, hf⟩ := bd_o hf
        refine k4_performOn X hI hH hl.1 qX4_224 ⟨Nat.le_of_ble_eq_true rfl, Nat.le_of_ble_eq_true rfl⟩ ht8 (Nat.le_of_ble_eq_true rfl) dX4_perform_100 ⟨Nat.le_of_ble_eq_true rfl, Nat.le_of_ble_eq_true rfl⟩ (fun H locs hH => ?_)
        refine lv_if_eq (tgt := 110) hx hb dX4_perform_103 (by decide) (fun c9 => ?_) (fun c9 => ?_)
        · have hf := it_t c9 hf
          exact w4_perform_110 X hI hH (lv_sub hl [] rfl) hf
        · have hf := it_f c9 hf
          refine lv_iconst (v := 1) hx hb dX4_perform_106 (by decide) ?_
          refine lv_goto (tgt := 111) hx hb dX4_perform_107 (by decide) ?_
          exact w4_perform_111 X hI hH (lv_sub hl [] rfl) hf
    · have hf := it_t c3 hf
      refine lv_aload_n hx hb dX4_perform_38 rfl (lv_at hl 1 rfl) ?_
      refine cr_gRa X hH.1 (i := 0) (v := .ref (ad (15 * 0))) (by decide) gfX4_10 rfl dX4_perform_39 ?_
      refine lv_aload_n hx hb dX4_perform_42 rfl (lv_at hl 1 rfl) ?_
      refine cr_gRa X hH.1 (i := 5) (v := .ref (ad 155)) (by decide) gfX4_37 rfl dX4_perform_43 ?_
      refine lv_iload_n hx hb dX4_perform_46 rfl (lv_at hl 2 rfl) ?_
      refine lv_iconst (v := 1) hx hb dX4_perform_47 (by decide) ?_
      refine lv_iadd hx hb dX4_perform_48 ?_
      refine lv_iload_n hx hb dX4_perform_49 rfl (lv_at hl 3 rfl) ?_
      obtain ⟨t10, ht10, hf⟩ := bd_o hf
      refine k2_numberAt X rfl hH.1 hl.1 qX4_221 ⟨Nat.le_of_ble_eq_true rfl, Nat.le_of_ble_eq_true rfl⟩ ht10 (Nat.le_of_ble_eq_true rfl) dX4_perform_50 ⟨Nat.le_of_ble_eq_true rfl, Nat.le_of_ble_eq_true rfl⟩ ?_
      obtain ⟨t11, ht11, hf⟩ := bd_o hf
      refine km3_passTicks X hI (k := 0) (by omega) hH hl.1 qX4_114 ⟨Nat.le_of_ble_eq_true rfl, Nat.le_of_ble_eq_true rfl⟩ ht11 (Nat.le_of_ble_eq_true rfl) dX4_perform_53 ⟨Nat.le_of_ble_eq_true rfl, Nat.le_of_ble_eq_true rfl⟩ (fun H locs hH => ?_)
      refine lv_iconst (v := 1) hx hb dX4_perform_56 (by decide) ?_
      obtain rfl := so_i hf
      exact cr_zw X hH rfl (nz_z (Or.inr rfl)) dX4_perform_57
  · have hf := it_t c2 hf
    refine lv_aload_n hx hb dX4_perform_15 rfl (lv_at hl 1 rfl) ?_
    refine cr_gRa X hH.1 (i := 0) (v := .ref (ad (15 * 0))) (by decide) gfX4_10 rfl dX4_perform_16 ?_
    obtain ⟨t12, ht12, hf⟩ := bd_o hf
    refine km3_addCar X hI (k := 0) (by omega) hH hl.1 qX4_74 ⟨Nat.le_of_ble_eq_true rfl, Nat.le_of_ble_eq_true rfl⟩ ht12 (Nat.le_of_ble_eq_true rfl) dX4_perform_19 ⟨Nat.le_of_ble_eq_true rfl, Nat.le_of_ble_eq_true rfl⟩ (fun H locs hH => ?_)
    refine lv_iconst (v := (-1)) hx hb dX4_perform_22 (by decide) ?_
    refine lv_icmp_eq (tgt := 30) hx hb dX4_perform_23 (by decide) (fun c13 => ?_) (fun c13 => ?_)
    · have hf := it_t c13 hf
      refine lv_iconst (v := 0) hx hb dX4_perform_30 (by decide) ?_
      exact w4_perform_31 X hI hH (lv_sub hl [] rfl) hf
    · have hf := it_f c13 hf
      refine lv_iconst (v := 1) hx hb dX4_perform_26 (by decide) ?_
      refine lv_goto (tgt := 31) hx hb dX4_perform_27 (by decide) ?_
      exact w4_perform_31 X hI hH (lv_sub hl [] rfl) hf
set_option maxRecDepth 100000 in
set_option maxHeartbeats 4000000 in
theorem c4_perform (l : Launch) {D : va_G} {Y : cYt} {ad : Nat → Nat} {mu : Nat → Nat → Int32} (hI : cInj ad) (sz : Nat) (x1 : Int32) (x2 : Int32) {t : Int32 × (Nat → Nat → Int32)} (hf : f4_perform_0 x1 x2 mu = some t) : Met l yX4_perform uX4_perform rm4_perform (va_Pc [.ref (ad 150), .int x1, .int x2] (fun U => U.heap.size = sz ∧ cB D Y ad mu U)) (va_Qi (fun (r9 : Int32) (_ : Unit) => r9 = t.1) (fun _ t9 => cB D Y ad t.2 t9) (cA ad sz)) 0 0 (cA ad sz) := by
  refine Met.ofW (cc := cX4_perform) (maxL := 5) (ret := (some .boolean)) (by decide) rfl ?_
  intro p e s m args below meth c s₁ B hml hv
  obtain ⟨rfl, hsz, hP, hK⟩ := hv
  subst hsz
  have X : cX D Y p s m ([.ref (ad 150), .int x1, .int x2] : List Value).toArray meth c cX4_perform 5 RX4 (some .boolean) := ⟨⟨B.exec, B.bytes, hml, findClass_of_methodNamed B.named, fun w h => atoms_spec (ws := uX4_perform) B.pre w (List.mem_cons_of_mem _ h)⟩, B.returns, B.notSynchronized, hK⟩
  have hl := lv_entry ([.ref (ad 150), .int x1, .int x2]) (n := 5) (Nat.le_of_ble_eq_true rfl)
  rw [lg_entry_eq]
  generalize (lg_sl ([.ref (ad 150), .int x1, .int x2]) ++ List.replicate (5 - (lg_sl ([.ref (ad 150), .int x1, .int x2])).length) Slot.unset).toArray = ls at hl ⊢
  have hl : lv_has ls 5 [(0, .ref (ad 150)), (1, .int x1), (2, .int x2)] := hl
  exact w4_perform_0 X hI ⟨hP, va_S.rf⟩ (lv_sub hl [0, 1, 2] rfl) hf
set_option maxRecDepth 100000 in
set_option maxHeartbeats 4000000 in
theorem k4_perform {p : Program} {l : Launch} {e : Env} {R : Room} {s : State} {m : MethodId} {args : Array Value} {below : List Frame} {meth : Method} {c : Code} {cc : ByteArray} {nL : Nat} {own : String} {ret : Option FieldType} {D : va_G} {Y : cYt} {ad : Nat → Nat} {mu : Nat → Nat → Int32} {H : Heap} {locs : List Loc} {cells slots : Nat} {Q : State → Prop} {pc : Nat} {ls : Array Slot} {rest : List Value} (X : cX D Y p s m args meth c cc nL own ret) (hI : cInj ad) (hH : cH D Y ad mu s H locs) (hls : ls.size = nL) {index : Nat} (hG : GoodIn gw (wsV own index RX4 yX4_perform uX4_perform)) (hR : rm4_perform.frames + 1 ≤ R.frames ∧ 8 + (5 + 11) + rm4_perform.locals ≤ R.locals) {x1 : Int32} {x2 : Int32} {t : Int32 × (Nat → Nat → Int32)} (hf : f4_perform_0 x1 x2 mu = some t) (hrest : (rest.map fun v => v.category).sum ≤ 8) (hdg : decode cc pc = .ok (.invokevirtual index, 3)) (hc : cells ≤ R.cells ∧ slots ≤ R.slots) (kk : ∀ (H1 : Heap) (locs1 : List Loc), cH D Y ad t.2 s H1 locs1 → W p l e R s m args below meth c H1 locs1 cells slots Q (F0 m (pc + 3) ls (.int t.1 :: rest))) : W p l e R s m args below meth c H locs cells slots Q (F0 m pc ls (.int x2 :: .int x1 :: .ref (ad 150) :: rest)) := by
  have hA : ∀ q, cA ad H.size q → cA ad s.heap.size q := fun q h => h.elim Or.inl (fun h => Or.inr (Nat.le_trans hH.2.1 h))
  refine va_calli (va_runV (As := [.int x1, .int x2]) (rest := rest) X.1 (c4_perform l hI H.size x1 x2 hf) (cwV 2 X.1.2.2.2.2 hG rfl rfl rfl (by decide +kernel) hR) ⟨cBs_bl, va_recv X.2.2.2 hH.1 (ci := 4) (q0 := 150) rfl (cw_ate (by omega) rfl), fun U hU hW => ⟨rfl, by rw [hU], by rw [hU]; exact hH.1, va_K.moved hW.alike X.2.2.2⟩⟩ rfl rfl hls rfl (lv_room hrest) hdg hc) hH.2 (fun q _ h => hA q h) hA (fun r9 u t9 H1 locs1 ht hvm hw hB hz1 hk1 hS => ?_)
  subst hw
  exact kk H1 locs1 ⟨by rw [← ht]; exact hB.1, hS⟩
/-! OreRailway.execute()I -/
def rm4_execute : Room := { frames := 7, cells := 1, slots := 6, locals := 139 }
def f4_execute_74 (x1 : Int32) (mu : Nat → Nat → Int32) : Option (Int32 × Int32 × (Nat → Nat → Int32)) := some (0, x1, s1 mu 12 (upd (mu 12) 60 0))
set_option maxRecDepth 100000 in
set_option maxHeartbeats 4000000 in
theorem w4_execute_74 {p : Program} {l : Launch} {e : Env} {s : State} {m : MethodId} {args : Array Value} {below : List Frame} {meth : Method} {c : Code} {D : va_G} {Y : cYt} {ad : Nat → Nat} {mu : Nat → Nat → Int32} (X : cX D Y p s m args meth c cX4_execute 4 RX4 (some .int)) (hI : cInj ad) (hl0 : l.stackTraces = false) (hZ : c.exceptionTable.toList = [] ∧ zx (cA ad s.heap.size) s)  {x1 : Int32} {t : Int32 × Int32 × (Nat → Nat → Int32)}  {H : Heap} {locs : List Loc} (hH : cH D Y ad mu s H locs) {ls : Array Slot} (hl : lv_has ls 4 [(0, .ref (ad 150)), (1, .int x1)]) (hf : f4_execute_74 x1 mu = some t) : W p l e rm4_execute s m args below meth c H locs 1 6 (vx_MQ below (va_Qi (fun (r9 : Int32) (_ : Unit) => r9 = t.2.1 ∧ t.1 = 0) (fun _ t9 => cB D Y ad t.2.2 t9) (cA ad s.heap.size)) (vx_X (fun (_ : Unit) => ¬ t.1 = 0) (fun E _ t9 => E = xn t.1 ∧ cB D Y ad t.2.2 t9) (cA ad s.heap.size)) args s 1 6 (cA ad s.heap.size)) (F0 m 74 ls []) := by
  obtain ⟨⟨hx, hb, hml, hown, hts⟩, hr, hlk, hK⟩ := id X
  replace hf : (some (0, x1, s1 mu 12 (upd (mu 12) 60 0))) = some t := hf
  refine lv_aload_n hx hb dX4_execute_74 rfl (lv_at hl 0 rfl) ?_
  refine cr_gRa X hH.1 (i := 5) (v := .ref (ad 155)) (by decide) gfX4_37 rfl dX4_execute_75 ?_
  refine lv_iconst (v := 0) hx hb dX4_execute_78 (by decide) ?_
  refine cv_pOr X hI (cH_in 12 hH) 1 rfl gfX4_122 dX4_execute_79 (fun H locs hH => ?_)
  refine lv_iload_n hx hb dX4_execute_82 rfl (lv_at hl 1 rfl) ?_
  obtain rfl := so_i hf
  exact cx_iw X hH rfl rfl (Nat.le_of_ble_eq_true rfl) (Nat.le_of_ble_eq_true rfl) dX4_execute_83
def f4_execute_68 (K27 : Int32 → Int32 → Int32 → (Nat → Nat → Int32) → (Option (Int32 × Int32 × (Nat → Nat → Int32)))) (x1 : Int32) (x2 : Int32) (x3 : Int32) (mu : Nat → Nat → Int32) : Option (Int32 × Int32 × (Nat → Nat → Int32)) := K27 x1 x2 (x3 + 1) mu
set_option maxRecDepth 100000 in
set_option maxHeartbeats 4000000 in
theorem w4_execute_68 {p : Program} {l : Launch} {e : Env} {s : State} {m : MethodId} {args : Array Value} {below : List Frame} {meth : Method} {c : Code} {D : va_G} {Y : cYt} {ad : Nat → Nat} {mu : Nat → Nat → Int32} (X : cX D Y p s m args meth c cX4_execute 4 RX4 (some .int)) (hI : cInj ad) (hl0 : l.stackTraces = false) (hZ : c.exceptionTable.toList = [] ∧ zx (cA ad s.heap.size) s)  {x1 : Int32} {x2 : Int32} {x3 : Int32} {t : Int32 × Int32 × (Nat → Nat → Int32)} {K27 : Int32 → Int32 → Int32 → (Nat → Nat → Int32) → (Option (Int32 × Int32 × (Nat → Nat → Int32)))} (hK27 : ∀ (x1 : Int32) (x2 : Int32) (x3 : Int32) (mu : Nat → Nat → Int32) (H : Heap) (locs : List Loc), cH D Y ad mu s H locs → ∀ (ls : Array Slot), lv_has ls 4 [(0, .ref (ad 150)), (1, .int x1), (2, .int x2), (3, .int x3)] → K27 x1 x2 x3 mu = some t → W p l e rm4_execute s m args below meth c H locs 1 6 (vx_MQ below (va_Qi (fun (r9 : Int32) (_ : Unit) => r9 = t.2.1 ∧ t.1 = 0) (fun _ t9 => cB D Y ad t.2.2 t9) (cA ad s.heap.size)) (vx_X (fun (_ : Unit) => ¬ t.1 = 0) (fun E _ t9 => E = xn t.1 ∧ cB D Y ad t.2.2 t9) (cA ad s.heap.size)) args s 1 6 (cA ad s.heap.size)) (F0 m 27 ls []))  {H : Heap} {locs : List Loc} (hH : cH D Y ad mu s H locs) {ls : Array Slot} (hl : lv_has ls 4 [(0, .ref (ad 150)), (1, .int x1), (2, .int x2), (3, .int x3)]) (hf : f4_execute_68 K27 x1 x2 x3 mu = some t) : W p l e rm4_execute s m args below meth c H locs 1 6 (vx_MQ below (va_Qi (fun (r9 : Int32) (_ : Unit) => r9 = t.2.1 ∧ t.1 = 0) (fun _ t9 => cB D Y ad t.2.2 t9) (cA ad s.heap.size)) (vx_X (fun (_ : Unit) => ¬ t.1 = 0) (fun E _ t9 => E = xn t.1 ∧ cB D Y ad t.2.2 t9) (cA ad s.heap.size)) args s 1 6 (cA ad s.heap.size)) (F0 m 68 ls []) := by
  obtain ⟨⟨hx, hb, hml, hown, hts⟩, hr, hlk, hK⟩ := id X
  replace hf : (K27 x1 x2 (x3 + 1) mu) = some t := hf
  refine lv_iinc (v := x3 + 1) (lv' := [(3, .int (x3 + 1)), (0, .ref (ad 150)), (1, .int x1), (2, .int x2)]) hx hb dX4_execute_68 hl (k := 3) rfl rfl (by decide) rfl (fun ls hl => ?_)
  refine lv_goto (tgt := 27) hx hb dX4_execute_71 (by decide) ?_
  exact hK27 _ _ _ _ _ _ hH _ (lv_sub hl [1, 2, 3, 0] rfl) hf
def f4_execute_27 : Nat → Int32 → Int32 → Int32 → (Nat → Nat → Int32) → Option (Int32 × Int32 × (Nat → Nat → Int32))
  | 0, _, _, _, _ => none
  | n + 1, x1, x2, x3, mu => if (mu 12 60) < x3 then (f4_execute_74 x1 mu) else (Option.bind (f2_isOrderEnd_0 (mu 12) x3) (fun t2 => if t2 = 0 then (f4_execute_68 (f4_execute_27 n) x1 x2 x3 mu) else (Option.bind (f4_perform_0 x2 x3 mu) (fun t4 => if t4.1 = 0 then (f4_execute_74 x1 t4.2) else (f4_execute_68 (f4_execute_27 n) (x1 + 1) (x3 + 1) x3 t4.2)))))
set_option maxRecDepth 100000 in
set_option maxHeartbeats 4000000 in
theorem w4_execute_27 {p : Program} {l : Launch} {e : Env} {s : State} {m : MethodId} {args : Array Value} {below : List Frame} {meth : Method} {c : Code} {D : va_G} {Y : cYt} {ad : Nat → Nat} (X : cX D Y p s m args meth c cX4_execute 4 RX4 (some .int)) (hI : cInj ad) (hl0 : l.stackTraces = false) (hZ : c.exceptionTable.toList = [] ∧ zx (cA ad s.heap.size) s)  {t : Int32 × Int32 × (Nat → Nat → Int32)} :
    ∀ (n : Nat) (x1 : Int32) (x2 : Int32) (x3 : Int32) (mu : Nat → Nat → Int32) (H : Heap) (locs : List Loc), cH D Y ad mu s H locs → ∀ (ls : Array Slot), lv_has ls 4 [(0, .ref (ad 150)), (1, .int x1), (2, .int x2), (3, .int x3)] → f4_execute_27 n x1 x2 x3 mu = some t → W p l e rm4_execute s m args below meth c H locs 1 6 (vx_MQ below (va_Qi (fun (r9 : Int32) (_ : Unit) => r9 = t.2.1 ∧ t.1 = 0) (fun _ t9 => cB D Y ad t.2.2 t9) (cA ad s.heap.size)) (vx_X (fun (_ : Unit) => ¬ t.1 = 0) (fun E _ t9 => E = xn t.1 ∧ cB D Y ad t.2.2 t9) (cA ad s.heap.size)) args s 1 6 (cA ad s.heap.size)) (F0 m 27 ls []) := by
  obtain ⟨⟨hx, hb, hml, hown, hts⟩, hr, hlk, hK⟩ := id X
  intro n
  induction n with
  | zero =>
    intro x1 x2 x3 mu H locs hH ls hl hf
    cases hf
  | succ n ih =>
    intro x1 x2 x3 mu H locs hH ls hl hf
    replace hf : (if (mu 12 60) < x3 then (f4_execute_74 x1 mu) else (Option.bind (f2_isOrderEnd_0 (mu 12) x3) (fun t2 => if t2 = 0 then (f4_execute_68 (f4_execute_27 n) x1 x2 x3 mu) else (Option.bind (f4_perform_0 x2 x3 mu) (fun t4 => if t4.1 = 0 then (f4_execute_74 x1 t4.2) else (f4_execute_68 (f4_execute_27 n) (x1 + 1) (x3 + 1) x3 t4.2)))))) = some t := hf
    refine lv_iload_n hx hb dX4_execute_27 rfl (lv_at hl 3 rfl) ?_
    refine lv_aload_n hx hb dX4_execute_28 rfl (lv_at hl 0 rfl) ?_
    refine cr_gRa X hH.1 (i := 5) (v := .ref (ad 155)) (by decide) gfX4_37 rfl dX4_execute_29 ?_
    refine cr_gOr X rfl hH.1 (i := 1) (v := .int (mu 12 60)) (by decide) gfX4_122 rfl dX4_execute_32 ?_
    refine lv_icmp_gt (tgt := 74) hx hb dX4_execute_35 (by decide) (fun c1 => ?_) (fun c1 => ?_)
    · have hf := it_t c1 hf
      exact w4_execute_74 X hI hl0 hZ hH (lv_sub hl [0, 1] rfl) hf
    · have hf := it_f c1 hf
      refine lv_aload_n hx hb dX4_execute_38 rfl (lv_at hl 0 rfl) ?_
      refine cr_gRa X hH.1 (i := 5) (v := .ref (ad 155)) (by decide) gfX4_37 rfl dX4_execute_39 ?_
      refine lv_iload_n hx hb dX4_execute_42 rfl (lv_at hl 3 rfl) ?_
      obtain ⟨t2, ht2, hf⟩ := bd_o hf
      refine k2_isOrderEnd X rfl hH.1 hl.1 qX4_132 ⟨Nat.le_of_ble_eq_true rfl, Nat.le_of_ble_eq_true rfl⟩ ht2 (Nat.le_of_ble_eq_true rfl) dX4_execute_43 ⟨Nat.le_of_ble_eq_true rfl, Nat.le_of_ble_eq_true rfl⟩ ?_
      refine lv_if_eq (tgt := 68) hx hb dX4_execute_46 (by decide) (fun c3 => ?_) (fun c3 => ?_)
      · have hf := it_t c3 hf
        exact w4_execute_68 X hI hl0 hZ (K27 := (f4_execute_27 n)) ih hH (lv_sub hl [0, 1, 2, 3] rfl) hf
      · have hf := it_f c3 hf
        refine lv_aload_n hx hb dX4_execute_49 rfl (lv_at hl 0 rfl) ?_
        refine lv_iload_n hx hb dX4_execute_50 rfl (lv_at hl 2 rfl) ?_
        refine lv_iload_n hx hb dX4_execute_51 rfl (lv_at hl 3 rfl) ?_
        obtain ⟨t4, ht4, hf⟩ := bd_o hf
        refine k4_perform X hI hH hl.1 qX4_135 ⟨Nat.le_of_ble_eq_true rfl, Nat.le_of_ble_eq_true rfl⟩ ht4 (Nat.le_of_ble_eq_true rfl) dX4_execute_52 ⟨Nat.le_of_ble_eq_true rfl, Nat.le_of_ble_eq_true rfl⟩ (fun H locs hH => ?_)
        refine lv_if_ne (tgt := 61) hx hb dX4_execute_55 (by decide) (fun c5 => ?_) (fun c5 => ?_)
        · have hf := it_f c5 hf
          refine lv_iinc (v := x1 + 1) (lv' := [(1, .int (x1 + 1)), (0, .ref (ad 150)), (2, .int x2), (3, .int x3)]) hx hb dX4_execute_61 hl (k := 1) rfl rfl (by decide) rfl (fun ls hl => ?_)
          refine lv_iload_n hx hb dX4_execute_64 rfl (lv_at hl 3 rfl) ?_
          refine lv_iconst (v := 1) hx hb dX4_execute_65 (by decide) ?_
          refine lv_iadd hx hb dX4_execute_66 ?_
          refine lv_istore_n (lv' := [(2, .int (x3 + 1)), (1, .int (x1 + 1)), (0, .ref (ad 150)), (3, .int x3)]) hx hb dX4_execute_67 rfl hl (by decide) rfl (fun ls hl => ?_)
          exact w4_execute_68 X hI hl0 hZ (K27 := (f4_execute_27 n)) ih hH (lv_sub hl [2, 1, 0, 3] rfl) hf
        · have hf := it_t c5 hf
          refine lv_goto (tgt := 74) hx hb dX4_execute_58 (by decide) ?_
          exact w4_execute_74 X hI hl0 hZ hH (lv_sub hl [0, 1] rfl) hf
def f4_execute_0 (mu : Nat → Nat → Int32) : Option (Int32 × Int32 × (Nat → Nat → Int32)) := Option.bind (f2_isComplete_0 (mu 12)) (fun t1 => if t1 = 0 then (some (2, 0, mu)) else (Option.bind (f1_push_0 mu) (fun t3 => f4_execute_27 fu 0 0 1 t3)))
set_option maxRecDepth 100000 in
set_option maxHeartbeats 4000000 in
theorem w4_execute_0 {p : Program} {l : Launch} {e : Env} {s : State} {m : MethodId} {args : Array Value} {below : List Frame} {meth : Method} {c : Code} {D : va_G} {Y : cYt} {ad : Nat → Nat} {mu : Nat → Nat → Int32} (X : cX D Y p s m args meth c cX4_execute 4 RX4 (some .int)) (hI : cInj ad) (hl0 : l.stackTraces = false) (hZ : c.exceptionTable.toList = [] ∧ zx (cA ad s.heap.size) s)  {t : Int32 × Int32 × (Nat → Nat → Int32)}  {H : Heap} {locs : List Loc} (hH : cH D Y ad mu s H locs) {ls : Array Slot} (hl : lv_has ls 4 [(0, .ref (ad 150))]) (hf : f4_execute_0 mu = some t) : W p l e rm4_execute s m args below meth c H locs 0 0 (vx_MQ below (va_Qi (fun (r9 : Int32) (_ : Unit) => r9 = t.2.1 ∧ t.1 = 0) (fun _ t9 => cB D Y ad t.2.2 t9) (cA ad s.heap.size)) (vx_X (fun (_ : Unit) => ¬ t.1 = 0) (fun E _ t9 => E = xn t.1 ∧ cB D Y ad t.2.2 t9) (cA ad s.heap.size)) args s 1 6 (cA ad s.heap.size)) (F0 m 0 ls []) := by
  obtain ⟨⟨hx, hb, hml, hown, hts⟩, hr, hlk, hK⟩ := id X
  replace hf : (Option.bind (f2_isComplete_0 (mu 12)) (fun t1 => if t1 = 0 then (some (2, 0, mu)) else (Option.bind (f1_push_0 mu) (fun t3 => f4_execute_27 fu 0 0 1 t3)))) = some t := hf
  refine lv_aload_n hx hb dX4_execute_0 rfl (lv_at hl 0 rfl) ?_
  refine cr_gRa X hH.1 (i := 5) (v := .ref (ad 155)) (by decide) gfX4_37 rfl dX4_execute_1 ?_
  obtain ⟨t1, ht1, hf⟩ := bd_o hf
  refine k2_isComplete X rfl hH.1 hl.1 qX4_128 ⟨Nat.le_of_ble_eq_true rfl, Nat.le_of_ble_eq_true rfl⟩ ht1 (Nat.le_of_ble_eq_true rfl) dX4_execute_4 ⟨Nat.le_of_ble_eq_true rfl, Nat.le_of_ble_eq_true rfl⟩ ?_
  refine rq_2 X hl0 hZ hH hl.1 qX4_49 ⟨Nat.le_of_ble_eq_true rfl, Nat.le_of_ble_eq_true rfl⟩ dX4_execute_7 ⟨Nat.le_of_ble_eq_true rfl, Nat.le_of_ble_eq_true rfl⟩ ⟨Nat.le_of_ble_eq_true rfl, Nat.le_of_ble_eq_true rfl⟩ (fun c2 => ?_) (fun c2 => ?_)
  · have hf := it_t c2 hf
    obtain rfl := so_i hf
    exact ⟨rfl, rfl⟩
  have hf := it_f c2 hf
  refine lv_aload_n hx hb dX4_execute_10 rfl (lv_at hl 0 rfl) ?_
  refine cr_gRa X hH.1 (i := 2) (v := .ref (ad 151)) (by decide) gfX4_22 rfl dX4_execute_11 ?_
  refine lv_aload_n hx hb dX4_execute_14 rfl (lv_at hl 0 rfl) ?_
  refine cr_gRa X hH.1 (i := 0) (v := .ref (ad (15 * 0))) (by decide) gfX4_10 rfl dX4_execute_15 ?_
  obtain ⟨t3, ht3, hf⟩ := bd_o hf
  refine k1_push X hI hH hl.1 qX4_52 ⟨Nat.le_of_ble_eq_true rfl, Nat.le_of_ble_eq_true rfl⟩ ht3 (Nat.le_of_ble_eq_true rfl) dX4_execute_18 ⟨Nat.le_of_ble_eq_true rfl, Nat.le_of_ble_eq_true rfl⟩ (fun H locs hH => ?_)
  refine lv_iconst (v := 0) hx hb dX4_execute_21 (by decide) ?_
  refine lv_istore_n (lv' := [(1, .int 0), (0, .ref (ad 150))]) hx hb dX4_execute_22 rfl hl (by decide) rfl (fun ls hl => ?_)
  refine lv_iconst (v := 0) hx hb dX4_execute_23 (by decide) ?_
  refine lv_istore_n (lv' := [(2, .int 0), (1, .int 0), (0, .ref (ad 150))]) hx hb dX4_execute_24 rfl hl (by decide) rfl (fun ls hl => ?_)
  refine lv_iconst (v := 1) hx hb dX4_execute_25 (by decide) ?_
  refine lv_istore_n (lv' := [(3, .int 1), (2, .int 0), (1, .int 0), (0, .ref (ad 150))]) hx hb dX4_execute_26 rfl hl (by decide) rfl (fun ls hl => ?_)
  exact w4_execute_27 X hI hl0 hZ _ _ _ _ _ _ _ hH _ (lv_sub hl [3, 2, 1, 0] rfl) hf
set_option maxRecDepth 100000 in
set_option maxHeartbeats 4000000 in
theorem c4_execute (l : Launch) {D : va_G} {Y : cYt} {ad : Nat → Nat} {mu : Nat → Nat → Int32} (hI : cInj ad) (hl0 : l.stackTraces = false) (sz : Nat) {t : Int32 × Int32 × (Nat → Nat → Int32)} (hf : f4_execute_0 mu = some t) : vx_Met l yX4_execute uX4_execute rm4_execute (va_Pc [.ref (ad 150)] (fun U => U.heap.size = sz ∧ zx (cA ad sz) U ∧ cB D Y ad mu U)) (va_Qi (fun (r9 : Int32) (_ : Unit) => r9 = t.2.1 ∧ t.1 = 0) (fun _ t9 => cB D Y ad t.2.2 t9) (cA ad sz)) (vx_X (fun (_ : Unit) => ¬ t.1 = 0) (fun E _ t9 => E = xn t.1 ∧ cB D Y ad t.2.2 t9) (cA ad sz)) 1 6 (cA ad sz) := by
  refine vx_ofW (cc := cX4_execute) (maxL := 4) (ret := (some .int)) (by decide) rfl ?_
  intro p e s m args below meth c s₁ B hml hx0 hv
  obtain ⟨rfl, hsz, hz, hP, hK⟩ := hv
  subst hsz
  have X : cX D Y p s m ([.ref (ad 150)] : List Value).toArray meth c cX4_execute 4 RX4 (some .int) := ⟨⟨B.exec, B.bytes, hml, findClass_of_methodNamed B.named, fun w h => atoms_spec (ws := uX4_execute) B.pre w (List.mem_cons_of_mem _ h)⟩, B.returns, B.notSynchronized, hK⟩
  have hl := lv_entry ([.ref (ad 150)]) (n := 4) (Nat.le_of_ble_eq_true rfl)
  rw [lg_entry_eq]
  generalize (lg_sl ([.ref (ad 150)]) ++ List.replicate (4 - (lg_sl ([.ref (ad 150)])).length) Slot.unset).toArray = ls at hl ⊢
  have hl : lv_has ls 4 [(0, .ref (ad 150))] := hl
  exact w4_execute_0 X hI hl0 ⟨List.eq_nil_iff_forall_not_mem.mpr (fun x h => hx0 x h), hz⟩ ⟨hP, va_S.rf⟩ (lv_sub hl [0] rfl) hf
/-! OreRailway.undo()I -/
def rm4_undo : Room := { frames := 7, cells := 1, slots := 6, locals := 110 }
def f4_undo_15 (y0 : Int32) (mu : Nat → Nat → Int32) : Option (Int32 × Int32 × (Nat → Nat → Int32)) := if y0 = 0 then (some (3, 0, mu)) else (Option.bind (f1_popInto_0 mu) (fun t2 => some (0, t2 10 2, t2)))
set_option maxRecDepth 100000 in
set_option maxHeartbeats 4000000 in
theorem w4_undo_15 {p : Program} {l : Launch} {e : Env} {s : State} {m : MethodId} {args : Array Value} {below : List Frame} {meth : Method} {c : Code} {D : va_G} {Y : cYt} {ad : Nat → Nat} {mu : Nat → Nat → Int32} (X : cX D Y p s m args meth c cX4_undo 1 RX4 (some .int)) (hI : cInj ad) (hl0 : l.stackTraces = false) (hZ : c.exceptionTable.toList = [] ∧ zx (cA ad s.heap.size) s)  {y0 : Int32} {t : Int32 × Int32 × (Nat → Nat → Int32)}  {H : Heap} {locs : List Loc} (hH : cH D Y ad mu s H locs) {ls : Array Slot} (hl : lv_has ls 1 [(0, .ref (ad 150))]) (hf : f4_undo_15 y0 mu = some t) : W p l e rm4_undo s m args below meth c H locs 0 0 (vx_MQ below (va_Qi (fun (r9 : Int32) (_ : Unit) => r9 = t.2.1 ∧ t.1 = 0) (fun _ t9 => cB D Y ad t.2.2 t9) (cA ad s.heap.size)) (vx_X (fun (_ : Unit) => ¬ t.1 = 0) (fun E _ t9 => E = xn t.1 ∧ cB D Y ad t.2.2 t9) (cA ad s.heap.size)) args s 1 6 (cA ad s.heap.size)) (F0 m 15 ls [.int y0]) := by
  obtain ⟨⟨hx, hb, hml, hown, hts⟩, hr, hlk, hK⟩ := id X
  replace hf : (if y0 = 0 then (some (3, 0, mu)) else (Option.bind (f1_popInto_0 mu) (fun t2 => some (0, t2 10 2, t2)))) = some t := hf
  refine rq_3 X hl0 hZ hH hl.1 qX4_67 ⟨Nat.le_of_ble_eq_true rfl, Nat.le_of_ble_eq_true rfl⟩ dX4_undo_15 ⟨Nat.le_of_ble_eq_true rfl, Nat.le_of_ble_eq_true rfl⟩ ⟨Nat.le_of_ble_eq_true rfl, Nat.le_of_ble_eq_true rfl⟩ (fun c1 => ?_) (fun c1 => ?_)
  · have hf := it_t c1 hf
    obtain rfl := so_i hf
    exact ⟨rfl, rfl⟩
  have hf := it_f c1 hf
  refine lv_aload_n hx hb dX4_undo_18 rfl (lv_at hl 0 rfl) ?_
  refine cr_gRa X hH.1 (i := 2) (v := .ref (ad 151)) (by decide) gfX4_22 rfl dX4_undo_19 ?_
  refine lv_aload_n hx hb dX4_undo_22 rfl (lv_at hl 0 rfl) ?_
  refine cr_gRa X hH.1 (i := 0) (v := .ref (ad (15 * 0))) (by decide) gfX4_10 rfl dX4_undo_23 ?_
  obtain ⟨t2, ht2, hf⟩ := bd_o hf
  refine k1_popInto X hI hH hl.1 qX4_141 ⟨Nat.le_of_ble_eq_true rfl, Nat.le_of_ble_eq_true rfl⟩ ht2 (Nat.le_of_ble_eq_true rfl) dX4_undo_26 ⟨Nat.le_of_ble_eq_true rfl, Nat.le_of_ble_eq_true rfl⟩ (fun H locs hH => ?_)
  refine lv_aload_n hx hb dX4_undo_29 rfl (lv_at hl 0 rfl) ?_
  refine cr_gRa X hH.1 (i := 2) (v := .ref (ad 151)) (by decide) gfX4_22 rfl dX4_undo_30 ?_
  refine cr_gHi X hH.1 (i := 2) (v := .int (t2 10 2)) (by decide) gfX4_138 rfl dX4_undo_33 ?_
  obtain rfl := so_i hf
  exact cx_iw X hH rfl rfl (Nat.le_of_ble_eq_true rfl) (Nat.le_of_ble_eq_true rfl) dX4_undo_36
def f4_undo_0 (mu : Nat → Nat → Int32) : Option (Int32 × Int32 × (Nat → Nat → Int32)) := if (mu 10 2) ≤ 0 then (f4_undo_15 0 mu) else (f4_undo_15 1 mu)
set_option maxRecDepth 100000 in
set_option maxHeartbeats 4000000 in
theorem w4_undo_0 {p : Program} {l : Launch} {e : Env} {s : State} {m : MethodId} {args : Array Value} {below : List Frame} {meth : Method} {c : Code} {D : va_G} {Y : cYt} {ad : Nat → Nat} {mu : Nat → Nat → Int32} (X : cX D Y p s m args meth c cX4_undo 1 RX4 (some .int)) (hI : cInj ad) (hl0 : l.stackTraces = false) (hZ : c.exceptionTable.toList = [] ∧ zx (cA ad s.heap.size) s)  {t : Int32 × Int32 × (Nat → Nat → Int32)}  {H : Heap} {locs : List Loc} (hH : cH D Y ad mu s H locs) {ls : Array Slot} (hl : lv_has ls 1 [(0, .ref (ad 150))]) (hf : f4_undo_0 mu = some t) : W p l e rm4_undo s m args below meth c H locs 0 0 (vx_MQ below (va_Qi (fun (r9 : Int32) (_ : Unit) => r9 = t.2.1 ∧ t.1 = 0) (fun _ t9 => cB D Y ad t.2.2 t9) (cA ad s.heap.size)) (vx_X (fun (_ : Unit) => ¬ t.1 = 0) (fun E _ t9 => E = xn t.1 ∧ cB D Y ad t.2.2 t9) (cA ad s.heap.size)) args s 1 6 (cA ad s.heap.size)) (F0 m 0 ls []) := by
  obtain ⟨⟨hx, hb, hml, hown, hts⟩, hr, hlk, hK⟩ := id X
  replace hf : (if (mu 10 2) ≤ 0 then (f4_undo_15 0 mu) else (f4_undo_15 1 mu)) = some t := hf
  refine lv_aload_n hx hb dX4_undo_0 rfl (lv_at hl 0 rfl) ?_
  refine cr_gRa X hH.1 (i := 2) (v := .ref (ad 151)) (by decide) gfX4_22 rfl dX4_undo_1 ?_
  refine cr_gHi X hH.1 (i := 2) (v := .int (mu 10 2)) (by decide) gfX4_138 rfl dX4_undo_4 ?_
  refine lv_if_le (tgt := 14) hx hb dX4_undo_7 (by decide) (fun c1 => ?_) (fun c1 => ?_)
  · have hf := it_t c1 hf
    refine lv_iconst (v := 0) hx hb dX4_undo_14 (by decide) ?_
    exact w4_undo_15 X hI hl0 hZ hH (lv_sub hl [0] rfl) hf
  · have hf := it_f c1 hf
    refine lv_iconst (v := 1) hx hb dX4_undo_10 (by decide) ?_
    refine lv_goto (tgt := 15) hx hb dX4_undo_11 (by decide) ?_
    exact w4_undo_15 X hI hl0 hZ hH (lv_sub hl [0] rfl) hf
set_option maxRecDepth 100000 in
set_option maxHeartbeats 4000000 in
theorem c4_undo (l : Launch) {D : va_G} {Y : cYt} {ad : Nat → Nat} {mu : Nat → Nat → Int32} (hI : cInj ad) (hl0 : l.stackTraces = false) (sz : Nat) {t : Int32 × Int32 × (Nat → Nat → Int32)} (hf : f4_undo_0 mu = some t) : vx_Met l yX4_undo uX4_undo rm4_undo (va_Pc [.ref (ad 150)] (fun U => U.heap.size = sz ∧ zx (cA ad sz) U ∧ cB D Y ad mu U)) (va_Qi (fun (r9 : Int32) (_ : Unit) => r9 = t.2.1 ∧ t.1 = 0) (fun _ t9 => cB D Y ad t.2.2 t9) (cA ad sz)) (vx_X (fun (_ : Unit) => ¬ t.1 = 0) (fun E _ t9 => E = xn t.1 ∧ cB D Y ad t.2.2 t9) (cA ad sz)) 1 6 (cA ad sz) := by
  refine vx_ofW (cc := cX4_undo) (maxL := 1) (ret := (some .int)) (by decide) rfl ?_
  intro p e s m args below meth c s₁ B hml hx0 hv
  obtain ⟨rfl, hsz, hz, hP, hK⟩ := hv
  subst hsz
  have X : cX D Y p s m ([.ref (ad 150)] : List Value).toArray meth c cX4_undo 1 RX4 (some .int) := ⟨⟨B.exec, B.bytes, hml, findClass_of_methodNamed B.named, fun w h => atoms_spec (ws := uX4_undo) B.pre w (List.mem_cons_of_mem _ h)⟩, B.returns, B.notSynchronized, hK⟩
  have hl := lv_entry ([.ref (ad 150)]) (n := 1) (Nat.le_of_ble_eq_true rfl)
  rw [lg_entry_eq]
  generalize (lg_sl ([.ref (ad 150)]) ++ List.replicate (1 - (lg_sl ([.ref (ad 150)])).length) Slot.unset).toArray = ls at hl ⊢
  have hl : lv_has ls 1 [(0, .ref (ad 150))] := hl
  exact w4_undo_0 X hI hl0 ⟨List.eq_nil_iff_forall_not_mem.mpr (fun x h => hx0 x h), hz⟩ ⟨hP, va_S.rf⟩ (lv_sub hl [0] rfl) hf
/-! OreRailway.keep(I)I -/
def rm4_keep : Room := { frames := 7, cells := 1, slots := 6, locals := 110 }
def f4_keep_37 (mu : Nat → Nat → Int32) : Option (Int32 × Int32 × (Nat → Nat → Int32)) := some (0, mu 0 163, mu)
set_option maxRecDepth 100000 in
set_option maxHeartbeats 4000000 in
theorem w4_keep_37 {p : Program} {l : Launch} {e : Env} {s : State} {m : MethodId} {args : Array Value} {below : List Frame} {meth : Method} {c : Code} {D : va_G} {Y : cYt} {ad : Nat → Nat} {mu : Nat → Nat → Int32} (X : cX D Y p s m args meth c cX4_keep 2 RX4 (some .int)) (hI : cInj ad) (hl0 : l.stackTraces = false) (hZ : c.exceptionTable.toList = [] ∧ zx (cA ad s.heap.size) s)  {t : Int32 × Int32 × (Nat → Nat → Int32)}  {H : Heap} {locs : List Loc} (hH : cH D Y ad mu s H locs) {ls : Array Slot} (hl : lv_has ls 2 [(0, .ref (ad 150))]) (hf : f4_keep_37 mu = some t) : W p l e rm4_keep s m args below meth c H locs 1 6 (vx_MQ below (va_Qi (fun (r9 : Int32) (_ : Unit) => r9 = t.2.1 ∧ t.1 = 0) (fun _ t9 => cB D Y ad t.2.2 t9) (cA ad s.heap.size)) (vx_X (fun (_ : Unit) => ¬ t.1 = 0) (fun E _ t9 => E = xn t.1 ∧ cB D Y ad t.2.2 t9) (cA ad s.heap.size)) args s 1 6 (cA ad s.heap.size)) (F0 m 37 ls []) := by
  obtain ⟨⟨hx, hb, hml, hown, hts⟩, hr, hlk, hK⟩ := id X
  replace hf : (some (0, mu 0 163, mu)) = some t := hf
  refine lv_aload_n hx hb dX4_keep_37 rfl (lv_at hl 0 rfl) ?_
  refine cr_gRa X hH.1 (i := 0) (v := .ref (ad (15 * 0))) (by decide) gfX4_10 rfl dX4_keep_38 ?_
  refine cr_gSt X (k := 0) (by omega) rfl hH.1 (i := 7) (v := .int (mu 0 163)) (by decide) gfX4_147 rfl dX4_keep_41 ?_
  obtain rfl := so_i hf
  exact cx_iw X hH rfl rfl (Nat.le_of_ble_eq_true rfl) (Nat.le_of_ble_eq_true rfl) dX4_keep_44
def f4_keep_14 (x1 : Int32) (y0 : Int32) (mu : Nat → Nat → Int32) : Option (Int32 × Int32 × (Nat → Nat → Int32)) := if y0 = 0 then (some (2, 0, mu)) else (gd x1 2 (Option.bind (f3_copyFrom_0 (mu 0) (mu (8 + Int32.toNatClampNeg x1))) (fun t3 => gd x1 2 (f4_keep_37 (s1 (s1 mu (8 + Int32.toNatClampNeg x1) t3) 11 (upd ((s1 mu (8 + Int32.toNatClampNeg x1) t3) 11) (Int32.toNatClampNeg x1) (vp_nar .boolean 1)))))))
set_option maxRecDepth 100000 in
set_option maxHeartbeats 4000000 in
theorem w4_keep_14 {p : Program} {l : Launch} {e : Env} {s : State} {m : MethodId} {args : Array Value} {below : List Frame} {meth : Method} {c : Code} {D : va_G} {Y : cYt} {ad : Nat → Nat} {mu : Nat → Nat → Int32} (X : cX D Y p s m args meth c cX4_keep 2 RX4 (some .int)) (hI : cInj ad) (hl0 : l.stackTraces = false) (hZ : c.exceptionTable.toList = [] ∧ zx (cA ad s.heap.size) s)  {x1 : Int32} {y0 : Int32} {t : Int32 × Int32 × (Nat → Nat → Int32)}  {H : Heap} {locs : List Loc} (hH : cH D Y ad mu s H locs) {ls : Array Slot} (hl : lv_has ls 2 [(0, .ref (ad 150)), (1, .int x1)]) (hf : f4_keep_14 x1 y0 mu = some t) : W p l e rm4_keep s m args below meth c H locs 0 0 (vx_MQ below (va_Qi (fun (r9 : Int32) (_ : Unit) => r9 = t.2.1 ∧ t.1 = 0) (fun _ t9 => cB D Y ad t.2.2 t9) (cA ad s.heap.size)) (vx_X (fun (_ : Unit) => ¬ t.1 = 0) (fun E _ t9 => E = xn t.1 ∧ cB D Y ad t.2.2 t9) (cA ad s.heap.size)) args s 1 6 (cA ad s.heap.size)) (F0 m 14 ls [.int y0]) := by
  obtain ⟨⟨hx, hb, hml, hown, hts⟩, hr, hlk, hK⟩ := id X
  replace hf : (if y0 = 0 then (some (2, 0, mu)) else (gd x1 2 (Option.bind (f3_copyFrom_0 (mu 0) (mu (8 + Int32.toNatClampNeg x1))) (fun t3 => gd x1 2 (f4_keep_37 (s1 (s1 mu (8 + Int32.toNatClampNeg x1) t3) 11 (upd ((s1 mu (8 + Int32.toNatClampNeg x1) t3) 11) (Int32.toNatClampNeg x1) (vp_nar .boolean 1)))))))) = some t := hf
  refine rq_2 X hl0 hZ hH hl.1 qX4_49 ⟨Nat.le_of_ble_eq_true rfl, Nat.le_of_ble_eq_true rfl⟩ dX4_keep_14 ⟨Nat.le_of_ble_eq_true rfl, Nat.le_of_ble_eq_true rfl⟩ ⟨Nat.le_of_ble_eq_true rfl, Nat.le_of_ble_eq_true rfl⟩ (fun c1 => ?_) (fun c1 => ?_)
  · have hf := it_t c1 hf
    obtain rfl := so_i hf
    exact ⟨rfl, rfl⟩
  have hf := it_f c1 hf
  refine lv_aload_n hx hb dX4_keep_17 rfl (lv_at hl 0 rfl) ?_
  refine cr_gRa X hH.1 (i := 3) (v := .ref (ad 153)) (by decide) gfX4_26 rfl dX4_keep_18 ?_
  refine lv_iload_n hx hb dX4_keep_21 rfl (lv_at hl 1 rfl) ?_
  obtain ⟨hi2, hf⟩ := gd_o hf
  refine cr_shots X hH.1 hi2 dX4_keep_22 ?_
  refine lv_aload_n hx hb dX4_keep_23 rfl (lv_at hl 0 rfl) ?_
  refine cr_gRa X hH.1 (i := 0) (v := .ref (ad (15 * 0))) (by decide) gfX4_10 rfl dX4_keep_24 ?_
  obtain ⟨t3, ht3, hf⟩ := bd_o hf
  refine km3_copyFrom X hI (k := 8 + Int32.toNatClampNeg x1) (by have := vin_lt hi2; omega) (k2 := 0) (by omega) (by omega) hH hl.1 qX4_144 ⟨Nat.le_of_ble_eq_true rfl, Nat.le_of_ble_eq_true rfl⟩ ht3 (Nat.le_of_ble_eq_true rfl) dX4_keep_27 ⟨Nat.le_of_ble_eq_true rfl, Nat.le_of_ble_eq_true rfl⟩ (fun H locs hH => ?_)
  refine lv_aload_n hx hb dX4_keep_30 rfl (lv_at hl 0 rfl) ?_
  refine cr_gRa X hH.1 (i := 4) (v := .ref (ad 154)) (by decide) gfX4_30 rfl dX4_keep_31 ?_
  refine lv_iload_n hx hb dX4_keep_34 rfl (lv_at hl 1 rfl) ?_
  refine lv_iconst (v := 1) hx hb dX4_keep_35 (by decide) ?_
  obtain ⟨hi4, hf⟩ := gd_o hf
  refine cv_stk X hI (cH_in 11 hH) hi4 dX4_keep_36 (fun H locs hH => ?_)
  exact w4_keep_37 X hI hl0 hZ hH (lv_sub hl [0] rfl) hf
def f4_keep_13 (x1 : Int32) (mu : Nat → Nat → Int32) : Option (Int32 × Int32 × (Nat → Nat → Int32)) := f4_keep_14 x1 0 mu
set_option maxRecDepth 100000 in
set_option maxHeartbeats 4000000 in
theorem w4_keep_13 {p : Program} {l : Launch} {e : Env} {s : State} {m : MethodId} {args : Array Value} {below : List Frame} {meth : Method} {c : Code} {D : va_G} {Y : cYt} {ad : Nat → Nat} {mu : Nat → Nat → Int32} (X : cX D Y p s m args meth c cX4_keep 2 RX4 (some .int)) (hI : cInj ad) (hl0 : l.stackTraces = false) (hZ : c.exceptionTable.toList = [] ∧ zx (cA ad s.heap.size) s)  {x1 : Int32} {t : Int32 × Int32 × (Nat → Nat → Int32)}  {H : Heap} {locs : List Loc} (hH : cH D Y ad mu s H locs) {ls : Array Slot} (hl : lv_has ls 2 [(0, .ref (ad 150)), (1, .int x1)]) (hf : f4_keep_13 x1 mu = some t) : W p l e rm4_keep s m args below meth c H locs 0 0 (vx_MQ below (va_Qi (fun (r9 : Int32) (_ : Unit) => r9 = t.2.1 ∧ t.1 = 0) (fun _ t9 => cB D Y ad t.2.2 t9) (cA ad s.heap.size)) (vx_X (fun (_ : Unit) => ¬ t.1 = 0) (fun E _ t9 => E = xn t.1 ∧ cB D Y ad t.2.2 t9) (cA ad s.heap.size)) args s 1 6 (cA ad s.heap.size)) (F0 m 13 ls []) := by
  obtain ⟨⟨hx, hb, hml, hown, hts⟩, hr, hlk, hK⟩ := id X
  replace hf : (f4_keep_14 x1 0 mu) = some t := hf
  refine lv_iconst (v := 0) hx hb dX4_keep_13 (by decide) ?_
  exact w4_keep_14 X hI hl0 hZ hH (lv_sub hl [0, 1] rfl) hf
def f4_keep_0 (x1 : Int32) (mu : Nat → Nat → Int32) : Option (Int32 × Int32 × (Nat → Nat → Int32)) := if x1 < 0 then (f4_keep_13 x1 mu) else (if 2 ≤ x1 then (f4_keep_13 x1 mu) else (f4_keep_14 x1 1 mu))
set_option maxRecDepth 100000 in
set_option maxHeartbeats 4000000 in
theorem w4_keep_0 {p : Program} {l : Launch} {e : Env} {s : State} {m : MethodId} {args : Array Value} {below : List Frame} {meth : Method} {c : Code} {D : va_G} {Y : cYt} {ad : Nat → Nat} {mu : Nat → Nat → Int32} (X : cX D Y p s m args meth c cX4_keep 2 RX4 (some .int)) (hI : cInj ad) (hl0 : l.stackTraces = false) (hZ : c.exceptionTable.toList = [] ∧ zx (cA ad s.heap.size) s)  {x1 : Int32} {t : Int32 × Int32 × (Nat → Nat → Int32)}  {H : Heap} {locs : List Loc} (hH : cH D Y ad mu s H locs) {ls : Array Slot} (hl : lv_has ls 2 [(0, .ref (ad 150)), (1, .int x1)]) (hf : f4_keep_0 x1 mu = some t) : W p l e rm4_keep s m args below meth c H locs 0 0 (vx_MQ below (va_Qi (fun (r9 : Int32) (_ : Unit) => r9 = t.2.1 ∧ t.1 = 0) (fun _ t9 => cB D Y ad t.2.2 t9) (cA ad s.heap.size)) (vx_X (fun (_ : Unit) => ¬ t.1 = 0) (fun E _ t9 => E = xn t.1 ∧ cB D Y ad t.2.2 t9) (cA ad s.heap.size)) args s 1 6 (cA ad s.heap.size)) (F0 m 0 ls []) := by
  obtain ⟨⟨hx, hb, hml, hown, hts⟩, hr, hlk, hK⟩ := id X
  replace hf : (if x1 < 0 then (f4_keep_13 x1 mu) else (if 2 ≤ x1 then (f4_keep_13 x1 mu) else (f4_keep_14 x1 1 mu))) = some t := hf
  refine lv_iload_n hx hb dX4_keep_0 rfl (lv_at hl 1 rfl) ?_
  refine lv_if_lt (tgt := 13) hx hb dX4_keep_1 (by decide) (fun c1 => ?_) (fun c1 => ?_)
  · have hf := it_t c1 hf
    exact w4_keep_13 X hI hl0 hZ hH (lv_sub hl [0, 1] rfl) hf
  · have hf := it_f c1 hf
    refine lv_iload_n hx hb dX4_keep_4 rfl (lv_at hl 1 rfl) ?_
    refine lv_iconst (v := 2) hx hb dX4_keep_5 (by decide) ?_
    refine lv_icmp_ge (tgt := 13) hx hb dX4_keep_6 (by decide) (fun c2 => ?_) (fun c2 => ?_)
    · have hf := it_t c2 hf
      exact w4_keep_13 X hI hl0 hZ hH (lv_sub hl [0, 1] rfl) hf
    · have hf := it_f c2 hf
      refine lv_iconst (v := 1) hx hb dX4_keep_9 (by decide) ?_
      refine lv_goto (tgt := 14) hx hb dX4_keep_10 (by decide) ?_
      exact w4_keep_14 X hI hl0 hZ hH (lv_sub hl [0, 1] rfl) hf
set_option maxRecDepth 100000 in
set_option maxHeartbeats 4000000 in
theorem c4_keep (l : Launch) {D : va_G} {Y : cYt} {ad : Nat → Nat} {mu : Nat → Nat → Int32} (hI : cInj ad) (hl0 : l.stackTraces = false) (sz : Nat) (x1 : Int32) {t : Int32 × Int32 × (Nat → Nat → Int32)} (hf : f4_keep_0 x1 mu = some t) : vx_Met l yX4_keep uX4_keep rm4_keep (va_Pc [.ref (ad 150), .int x1] (fun U => U.heap.size = sz ∧ zx (cA ad sz) U ∧ cB D Y ad mu U)) (va_Qi (fun (r9 : Int32) (_ : Unit) => r9 = t.2.1 ∧ t.1 = 0) (fun _ t9 => cB D Y ad t.2.2 t9) (cA ad sz)) (vx_X (fun (_ : Unit) => ¬ t.1 = 0) (fun E _ t9 => E = xn t.1 ∧ cB D Y ad t.2.2 t9) (cA ad sz)) 1 6 (cA ad sz) := by
  refine vx_ofW (cc := cX4_keep) (maxL := 2) (ret := (some .int)) (by decide) rfl ?_
  intro p e s m args below meth c s₁ B hml hx0 hv
  obtain ⟨rfl, hsz, hz, hP, hK⟩ := hv
  subst hsz
  have X : cX D Y p s m ([.ref (ad 150), .int x1] : List Value).toArray meth c cX4_keep 2 RX4 (some .int) := ⟨⟨B.exec, B.bytes, hml, findClass_of_methodNamed B.named, fun w h => atoms_spec (ws := uX4_keep) B.pre w (List.mem_cons_of_mem _ h)⟩, B.returns, B.notSynchronized, hK⟩
  have hl := lv_entry ([.ref (ad 150), .int x1]) (n := 2) (Nat.le_of_ble_eq_true rfl)
  rw [lg_entry_eq]
  generalize (lg_sl ([.ref (ad 150), .int x1]) ++ List.replicate (2 - (lg_sl ([.ref (ad 150), .int x1])).length) Slot.unset).toArray = ls at hl ⊢
  have hl : lv_has ls 2 [(0, .ref (ad 150)), (1, .int x1)] := hl
  exact w4_keep_0 X hI hl0 ⟨List.eq_nil_iff_forall_not_mem.mpr (fun x h => hx0 x h), hz⟩ ⟨hP, va_S.rf⟩ (lv_sub hl [0, 1] rfl) hf
