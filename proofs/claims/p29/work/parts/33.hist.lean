/-! OreRailway$History.push(LOreRailway$State;)V -/
def rm1_push : Room := { frames := 2, cells := 0, slots := 0, locals := 48 }
def f1_push_53 (mu : Nat → Nat → Int32) : Option ((Nat → Nat → Int32)) := some (mu)
set_option maxRecDepth 100000 in
set_option maxHeartbeats 4000000 in
theorem w1_push_53 {p : Program} {l : Launch} {e : Env} {s : State} {m : MethodId} {args : Array Value} {below : List Frame} {meth : Method} {c : Code} {D : va_G} {Y : cYt} {ad : Nat → Nat} {mu : Nat → Nat → Int32} (X : cX D Y p s m args meth c cX1_push 2 RX1 none) (hI : cInj ad)  {t : (Nat → Nat → Int32)}  {H : Heap} {locs : List Loc} (hH : cH D Y ad mu s H locs) {ls : Array Slot} (hl : lv_has ls 2 []) (hf : f1_push_53 mu = some t) : W p l e rm1_push s m args below meth c H locs 0 0 (MQ below (va_Qv (fun (_ : Unit) => True) (fun _ t9 => cB D Y ad t t9) (cA ad s.heap.size)) args s 0 0 (cA ad s.heap.size)) (F0 m 53 ls []) := by
  obtain ⟨⟨hx, hb, hml, hown, hts⟩, hr, hlk, hK⟩ := id X
  replace hf : (some (mu)) = some t := hf
  obtain rfl := so_i hf
  exact cr_vw X hH rfl dX1_push_53
def f1_push_35 (y0 : Int32) (mu : Nat → Nat → Int32) : Option ((Nat → Nat → Int32)) := f1_push_53 (s1 (s1 mu 10 (upd (mu 10) 1 y0)) 10 (upd ((s1 mu 10 (upd (mu 10) 1 y0)) 10) 2 (if (((s1 mu 10 (upd (mu 10) 1 y0)) 10 2) + 1) < 6 then (((s1 mu 10 (upd (mu 10) 1 y0)) 10 2) + 1) else 6)))
set_option maxRecDepth 100000 in
set_option maxHeartbeats 4000000 in
theorem w1_push_35 {p : Program} {l : Launch} {e : Env} {s : State} {m : MethodId} {args : Array Value} {below : List Frame} {meth : Method} {c : Code} {D : va_G} {Y : cYt} {ad : Nat → Nat} {mu : Nat → Nat → Int32} (X : cX D Y p s m args meth c cX1_push 2 RX1 none) (hI : cInj ad)  {y0 : Int32} {t : (Nat → Nat → Int32)}  {H : Heap} {locs : List Loc} (hH : cH D Y ad mu s H locs) {ls : Array Slot} (hl : lv_has ls 2 [(0, .ref (ad 151))]) (hf : f1_push_35 y0 mu = some t) : W p l e rm1_push s m args below meth c H locs 0 0 (MQ below (va_Qv (fun (_ : Unit) => True) (fun _ t9 => cB D Y ad t t9) (cA ad s.heap.size)) args s 0 0 (cA ad s.heap.size)) (F0 m 35 ls [.int y0, .ref (ad 151)]) := by
  obtain ⟨⟨hx, hb, hml, hown, hts⟩, hr, hlk, hK⟩ := id X
  replace hf : (f1_push_53 (s1 (s1 mu 10 (upd (mu 10) 1 y0)) 10 (upd ((s1 mu 10 (upd (mu 10) 1 y0)) 10) 2 (if (((s1 mu 10 (upd (mu 10) 1 y0)) 10 2) + 1) < 6 then (((s1 mu 10 (upd (mu 10) 1 y0)) 10 2) + 1) else 6)))) = some t := hf
  refine cv_pHi X hI (cH_in 10 hH) 1 (by decide) gfX1_18 dX1_push_35 (fun H locs hH => ?_)
  refine lv_aload_n hx hb dX1_push_38 rfl (lv_at hl 0 rfl) ?_
  refine lv_bipush (v := 6) hx hb dX1_push_39 (by decide) ?_
  refine lv_aload_n hx hb dX1_push_41 rfl (lv_at hl 0 rfl) ?_
  refine cr_gHi X hH.1 (i := 2) (v := .int ((s1 mu 10 (upd (mu 10) 1 y0)) 10 2)) (by decide) gfX1_26 rfl dX1_push_42 ?_
  refine lv_iconst (v := 1) hx hb dX1_push_45 (by decide) ?_
  refine lv_iadd hx hb dX1_push_46 ?_
  refine va_mmin hx hb (hml.trans hl.1.symm) hown (hts _ gmX1_29) (hts _ gl_static_Lib_Math_min_name) (hts _ gi_java_lang_Math) (hts _ gl_code_Lib_Math_min_name) (Nat.le_of_ble_eq_true rfl) (Nat.le_of_ble_eq_true rfl) (Nat.zero_le _) (Nat.zero_le _) dX1_push_47 ?_
  refine cv_pHi X hI (cH_in 10 hH) 2 (by decide) gfX1_26 dX1_push_50 (fun H locs hH => ?_)
  exact w1_push_53 X hI hH (lv_sub hl [] rfl) hf
def f1_push_0 (mu : Nat → Nat → Int32) : Option ((Nat → Nat → Int32)) := gd (mu 10 1) 6 (Option.bind (f3_copyFrom_0 (mu 0) (mu (2 + Int32.toNatClampNeg (mu 10 1)))) (fun t2 => if 6 ≤ (((s1 mu (2 + Int32.toNatClampNeg (mu 10 1)) t2) 10 1) + 1) then (f1_push_35 0 (s1 mu (2 + Int32.toNatClampNeg (mu 10 1)) t2)) else (f1_push_35 (((s1 mu (2 + Int32.toNatClampNeg (mu 10 1)) t2) 10 1) + 1) (s1 mu (2 + Int32.toNatClampNeg (mu 10 1)) t2))))
set_option maxRecDepth 100000 in
set_option maxHeartbeats 4000000 in
theorem w1_push_0 {p : Program} {l : Launch} {e : Env} {s : State} {m : MethodId} {args : Array Value} {below : List Frame} {meth : Method} {c : Code} {D : va_G} {Y : cYt} {ad : Nat → Nat} {mu : Nat → Nat → Int32} (X : cX D Y p s m args meth c cX1_push 2 RX1 none) (hI : cInj ad)  {t : (Nat → Nat → Int32)}  {H : Heap} {locs : List Loc} (hH : cH D Y ad mu s H locs) {ls : Array Slot} (hl : lv_has ls 2 [(0, .ref (ad 151)), (1, .ref (ad (15 * 0)))]) (hf : f1_push_0 mu = some t) : W p l e rm1_push s m args below meth c H locs 0 0 (MQ below (va_Qv (fun (_ : Unit) => True) (fun _ t9 => cB D Y ad t t9) (cA ad s.heap.size)) args s 0 0 (cA ad s.heap.size)) (F0 m 0 ls []) := by
  obtain ⟨⟨hx, hb, hml, hown, hts⟩, hr, hlk, hK⟩ := id X
  replace hf : (gd (mu 10 1) 6 (Option.bind (f3_copyFrom_0 (mu 0) (mu (2 + Int32.toNatClampNeg (mu 10 1)))) (fun t2 => if 6 ≤ (((s1 mu (2 + Int32.toNatClampNeg (mu 10 1)) t2) 10 1) + 1) then (f1_push_35 0 (s1 mu (2 + Int32.toNatClampNeg (mu 10 1)) t2)) else (f1_push_35 (((s1 mu (2 + Int32.toNatClampNeg (mu 10 1)) t2) 10 1) + 1) (s1 mu (2 + Int32.toNatClampNeg (mu 10 1)) t2))))) = some t := hf
  refine lv_aload_n hx hb dX1_push_0 rfl (lv_at hl 0 rfl) ?_
  refine cr_gHi X hH.1 (i := 0) (v := .ref (ad 152)) (by decide) gfX1_11 rfl dX1_push_1 ?_
  refine lv_aload_n hx hb dX1_push_4 rfl (lv_at hl 0 rfl) ?_
  refine cr_gHi X hH.1 (i := 1) (v := .int (mu 10 1)) (by decide) gfX1_18 rfl dX1_push_5 ?_
  obtain ⟨hi1, hf⟩ := gd_o hf
  refine cr_saved X hH.1 hi1 dX1_push_8 ?_
  refine lv_aload_n hx hb dX1_push_9 rfl (lv_at hl 1 rfl) ?_
  obtain ⟨t2, ht2, hf⟩ := bd_o hf
  refine km3_copyFrom X hI (k := 2 + Int32.toNatClampNeg (mu 10 1)) (by have := vin_lt hi1; omega) (k2 := 0) (by omega) (by omega) hH hl.1 qX1_22 ⟨Nat.le_of_ble_eq_true rfl, Nat.le_of_ble_eq_true rfl⟩ ht2 (Nat.le_of_ble_eq_true rfl) dX1_push_10 ⟨Nat.le_of_ble_eq_true rfl, Nat.le_of_ble_eq_true rfl⟩ (fun H locs hH => ?_)
  refine lv_aload_n hx hb dX1_push_13 rfl (lv_at hl 0 rfl) ?_
  refine lv_aload_n hx hb dX1_push_14 rfl (lv_at hl 0 rfl) ?_
  refine cr_gHi X hH.1 (i := 1) (v := .int ((s1 mu (2 + Int32.toNatClampNeg (mu 10 1)) t2) 10 1)) (by decide) gfX1_18 rfl dX1_push_15 ?_
  refine lv_iconst (v := 1) hx hb dX1_push_18 (by decide) ?_
  refine lv_iadd hx hb dX1_push_19 ?_
  refine lv_bipush (v := 6) hx hb dX1_push_20 (by decide) ?_
  refine lv_icmp_ge (tgt := 34) hx hb dX1_push_22 (by decide) (fun c3 => ?_) (fun c3 => ?_)
  · have hf := it_t c3 hf
    refine lv_iconst (v := 0) hx hb dX1_push_34 (by decide) ?_
    exact w1_push_35 X hI hH (lv_sub hl [0] rfl) hf
  · have hf := it_f c3 hf
    refine lv_aload_n hx hb dX1_push_25 rfl (lv_at hl 0 rfl) ?_
    refine cr_gHi X hH.1 (i := 1) (v := .int ((s1 mu (2 + Int32.toNatClampNeg (mu 10 1)) t2) 10 1)) (by decide) gfX1_18 rfl dX1_push_26 ?_
    refine lv_iconst (v := 1) hx hb dX1_push_29 (by decide) ?_
    refine lv_iadd hx hb dX1_push_30 ?_
    refine lv_goto (tgt := 35) hx hb dX1_push_31 (by decide) ?_
    exact w1_push_35 X hI hH (lv_sub hl [0] rfl) hf
set_option maxRecDepth 100000 in
set_option maxHeartbeats 4000000 in
theorem c1_push (l : Launch) {D : va_G} {Y : cYt} {ad : Nat → Nat} {mu : Nat → Nat → Int32} (hI : cInj ad) (sz : Nat) {t : (Nat → Nat → Int32)} (hf : f1_push_0 mu = some t) : Met l yX1_push uX1_push rm1_push (va_Pc [.ref (ad 151), .ref (ad (15 * 0))] (fun U => U.heap.size = sz ∧ cB D Y ad mu U)) (va_Qv (fun (_ : Unit) => True) (fun _ t9 => cB D Y ad t t9) (cA ad sz)) 0 0 (cA ad sz) := by
  refine Met.ofW (cc := cX1_push) (maxL := 2) (ret := none) (by decide) rfl ?_
  intro p e s m args below meth c s₁ B hml hv
  obtain ⟨rfl, hsz, hP, hK⟩ := hv
  subst hsz
  have X : cX D Y p s m ([.ref (ad 151), .ref (ad (15 * 0))] : List Value).toArray meth c cX1_push 2 RX1 none := ⟨⟨B.exec, B.bytes, hml, findClass_of_methodNamed B.named, fun w h => atoms_spec (ws := uX1_push) B.pre w (List.mem_cons_of_mem _ h)⟩, B.returns, B.notSynchronized, hK⟩
  have hl := lv_entry ([.ref (ad 151), .ref (ad (15 * 0))]) (n := 2) (Nat.le_of_ble_eq_true rfl)
  rw [lg_entry_eq]
  generalize (lg_sl ([.ref (ad 151), .ref (ad (15 * 0))]) ++ List.replicate (2 - (lg_sl ([.ref (ad 151), .ref (ad (15 * 0))])).length) Slot.unset).toArray = ls at hl ⊢
  have hl : lv_has ls 2 [(0, .ref (ad 151)), (1, .ref (ad (15 * 0)))] := hl
  exact w1_push_0 X hI ⟨hP, va_S.rf⟩ (lv_sub hl [0, 1] rfl) hf
set_option maxRecDepth 100000 in
set_option maxHeartbeats 4000000 in
theorem k1_push {p : Program} {l : Launch} {e : Env} {R : Room} {s : State} {m : MethodId} {args : Array Value} {below : List Frame} {meth : Method} {c : Code} {cc : ByteArray} {nL : Nat} {own : String} {ret : Option FieldType} {D : va_G} {Y : cYt} {ad : Nat → Nat} {mu : Nat → Nat → Int32} {H : Heap} {locs : List Loc} {cells slots : Nat} {Q : State → Prop} {pc : Nat} {ls : Array Slot} {rest : List Value} (X : cX D Y p s m args meth c cc nL own ret) (hI : cInj ad) (hH : cH D Y ad mu s H locs) (hls : ls.size = nL) {index : Nat} (hG : GoodIn gw (wsV own index RX1 yX1_push uX1_push)) (hR : rm1_push.frames + 1 ≤ R.frames ∧ 8 + (2 + 11) + rm1_push.locals ≤ R.locals) {t : (Nat → Nat → Int32)} (hf : f1_push_0 mu = some t) (hrest : (rest.map fun v => v.category).sum ≤ 8) (hdg : decode cc pc = .ok (.invokevirtual index, 3)) (hc : cells ≤ R.cells ∧ slots ≤ R.slots) (kk : ∀ (H1 : Heap) (locs1 : List Loc), cH D Y ad t s H1 locs1 → W p l e R s m args below meth c H1 locs1 cells slots Q (F0 m (pc + 3) ls (rest))) : W p l e R s m args below meth c H locs cells slots Q (F0 m pc ls (.ref (ad (15 * 0)) :: .ref (ad 151) :: rest)) := by
  have hA : ∀ q, cA ad H.size q → cA ad s.heap.size q := fun q h => h.elim Or.inl (fun h => Or.inr (Nat.le_trans hH.2.1 h))
  refine va_callv (va_runV (As := [.ref (ad (15 * 0))]) (rest := rest) X.1 (c1_push l hI H.size hf) (cwV 1 X.1.2.2.2.2 hG rfl rfl rfl (by decide +kernel) hR) ⟨cBs_bl, va_recv X.2.2.2 hH.1 (ci := 1) (q0 := 151) rfl (cw_ate (by omega) rfl), fun U hU hW => ⟨rfl, by rw [hU], by rw [hU]; exact hH.1, va_K.moved hW.alike X.2.2.2⟩⟩ rfl rfl hls rfl (lv_room hrest) hdg hc) hH.2 (fun q _ h => hA q h) hA (fun u t9 H1 locs1 ht hvm hw hB hz1 hk1 hS => ?_)
  exact kk H1 locs1 ⟨by rw [← ht]; exact hB.1, hS⟩
/-! OreRailway$History.popInto(LOreRailway$State;)V -/
def rm1_popInto : Room := { frames := 2, cells := 0, slots := 0, locals := 48 }
def f1_popInto_31 (mu : Nat → Nat → Int32) : Option ((Nat → Nat → Int32)) := gd (mu 10 1) 6 (Option.bind (f3_copyFrom_0 (mu (2 + Int32.toNatClampNeg (mu 10 1))) (mu 0)) (fun t2 => some (s1 mu 0 t2)))
set_option maxRecDepth 100000 in
set_option maxHeartbeats 4000000 in
theorem w1_popInto_31 {p : Program} {l : Launch} {e : Env} {s : State} {m : MethodId} {args : Array Value} {below : List Frame} {meth : Method} {c : Code} {D : va_G} {Y : cYt} {ad : Nat → Nat} {mu : Nat → Nat → Int32} (X : cX D Y p s m args meth c cX1_popInto 2 RX1 none) (hI : cInj ad)  {t : (Nat → Nat → Int32)}  {H : Heap} {locs : List Loc} (hH : cH D Y ad mu s H locs) {ls : Array Slot} (hl : lv_has ls 2 [(0, .ref (ad 151)), (1, .ref (ad (15 * 0)))]) (hf : f1_popInto_31 mu = some t) : W p l e rm1_popInto s m args below meth c H locs 0 0 (MQ below (va_Qv (fun (_ : Unit) => True) (fun _ t9 => cB D Y ad t t9) (cA ad s.heap.size)) args s 0 0 (cA ad s.heap.size)) (F0 m 31 ls []) := by
  obtain ⟨⟨hx, hb, hml, hown, hts⟩, hr, hlk, hK⟩ := id X
  replace hf : (gd (mu 10 1) 6 (Option.bind (f3_copyFrom_0 (mu (2 + Int32.toNatClampNeg (mu 10 1))) (mu 0)) (fun t2 => some (s1 mu 0 t2)))) = some t := hf
  refine lv_aload_n hx hb dX1_popInto_31 rfl (lv_at hl 1 rfl) ?_
  refine lv_aload_n hx hb dX1_popInto_32 rfl (lv_at hl 0 rfl) ?_
  refine cr_gHi X hH.1 (i := 0) (v := .ref (ad 152)) (by decide) gfX1_11 rfl dX1_popInto_33 ?_
  refine lv_aload_n hx hb dX1_popInto_36 rfl (lv_at hl 0 rfl) ?_
  refine cr_gHi X hH.1 (i := 1) (v := .int (mu 10 1)) (by decide) gfX1_18 rfl dX1_popInto_37 ?_
  obtain ⟨hi1, hf⟩ := gd_o hf
  refine cr_saved X hH.1 hi1 dX1_popInto_40 ?_
  obtain ⟨t2, ht2, hf⟩ := bd_o hf
  refine km3_copyFrom X hI (k := 0) (by omega) (k2 := 2 + Int32.toNatClampNeg (mu 10 1)) (by have := vin_lt hi1; omega) (by omega) hH hl.1 qX1_22 ⟨Nat.le_of_ble_eq_true rfl, Nat.le_of_ble_eq_true rfl⟩ ht2 (Nat.le_of_ble_eq_true rfl) dX1_popInto_41 ⟨Nat.le_of_ble_eq_true rfl, Nat.le_of_ble_eq_true rfl⟩ (fun H locs hH => ?_)
  obtain rfl := so_i hf
  exact cr_vw X hH rfl dX1_popInto_44
def f1_popInto_18 (y0 : Int32) (mu : Nat → Nat → Int32) : Option ((Nat → Nat → Int32)) := f1_popInto_31 (s1 (s1 mu 10 (upd (mu 10) 1 y0)) 10 (upd ((s1 mu 10 (upd (mu 10) 1 y0)) 10) 2 (((s1 mu 10 (upd (mu 10) 1 y0)) 10 2) - 1)))
set_option maxRecDepth 100000 in
set_option maxHeartbeats 4000000 in
theorem w1_popInto_18 {p : Program} {l : Launch} {e : Env} {s : State} {m : MethodId} {args : Array Value} {below : List Frame} {meth : Method} {c : Code} {D : va_G} {Y : cYt} {ad : Nat → Nat} {mu : Nat → Nat → Int32} (X : cX D Y p s m args meth c cX1_popInto 2 RX1 none) (hI : cInj ad)  {y0 : Int32} {t : (Nat → Nat → Int32)}  {H : Heap} {locs : List Loc} (hH : cH D Y ad mu s H locs) {ls : Array Slot} (hl : lv_has ls 2 [(0, .ref (ad 151)), (1, .ref (ad (15 * 0)))]) (hf : f1_popInto_18 y0 mu = some t) : W p l e rm1_popInto s m args below meth c H locs 0 0 (MQ below (va_Qv (fun (_ : Unit) => True) (fun _ t9 => cB D Y ad t t9) (cA ad s.heap.size)) args s 0 0 (cA ad s.heap.size)) (F0 m 18 ls [.int y0, .ref (ad 151)]) := by
  obtain ⟨⟨hx, hb, hml, hown, hts⟩, hr, hlk, hK⟩ := id X
  replace hf : (f1_popInto_31 (s1 (s1 mu 10 (upd (mu 10) 1 y0)) 10 (upd ((s1 mu 10 (upd (mu 10) 1 y0)) 10) 2 (((s1 mu 10 (upd (mu 10) 1 y0)) 10 2) - 1)))) = some t := hf
  refine cv_pHi X hI (cH_in 10 hH) 1 (by decide) gfX1_18 dX1_popInto_18 (fun H locs hH => ?_)
  refine lv_aload_n hx hb dX1_popInto_21 rfl (lv_at hl 0 rfl) ?_
  refine lv_dup hx hb dX1_popInto_22 rfl ?_
  refine cr_gHi X hH.1 (i := 2) (v := .int ((s1 mu 10 (upd (mu 10) 1 y0)) 10 2)) (by decide) gfX1_26 rfl dX1_popInto_23 ?_
  refine lv_iconst (v := 1) hx hb dX1_popInto_26 (by decide) ?_
  refine lv_isub hx hb dX1_popInto_27 ?_
  refine cv_pHi X hI (cH_in 10 hH) 2 (by decide) gfX1_26 dX1_popInto_28 (fun H locs hH => ?_)
  exact w1_popInto_31 X hI hH (lv_sub hl [0, 1] rfl) hf
def f1_popInto_0 (mu : Nat → Nat → Int32) : Option ((Nat → Nat → Int32)) := if (mu 10 1) ≤ 0 then (f1_popInto_18 5 mu) else (f1_popInto_18 ((mu 10 1) - 1) mu)
set_option maxRecDepth 100000 in
set_option maxHeartbeats 4000000 in
theorem w1_popInto_0 {p : Program} {l : Launch} {e : Env} {s : State} {m : MethodId} {args : Array Value} {below : List Frame} {meth : Method} {c : Code} {D : va_G} {Y : cYt} {ad : Nat → Nat} {mu : Nat → Nat → Int32} (X : cX D Y p s m args meth c cX1_popInto 2 RX1 none) (hI : cInj ad)  {t : (Nat → Nat → Int32)}  {H : Heap} {locs : List Loc} (hH : cH D Y ad mu s H locs) {ls : Array Slot} (hl : lv_has ls 2 [(0, .ref (ad 151)), (1, .ref (ad (15 * 0)))]) (hf : f1_popInto_0 mu = some t) : W p l e rm1_popInto s m args below meth c H locs 0 0 (MQ below (va_Qv (fun (_ : Unit) => True) (fun _ t9 => cB D Y ad t t9) (cA ad s.heap.size)) args s 0 0 (cA ad s.heap.size)) (F0 m 0 ls []) := by
  obtain ⟨⟨hx, hb, hml, hown, hts⟩, hr, hlk, hK⟩ := id X
  replace hf : (if (mu 10 1) ≤ 0 then (f1_popInto_18 5 mu) else (f1_popInto_18 ((mu 10 1) - 1) mu)) = some t := hf
  refine lv_aload_n hx hb dX1_popInto_0 rfl (lv_at hl 0 rfl) ?_
  refine lv_aload_n hx hb dX1_popInto_1 rfl (lv_at hl 0 rfl) ?_
  refine cr_gHi X hH.1 (i := 1) (v := .int (mu 10 1)) (by decide) gfX1_18 rfl dX1_popInto_2 ?_
  refine lv_if_le (tgt := 17) hx hb dX1_popInto_5 (by decide) (fun c1 => ?_) (fun c1 => ?_)
  · have hf := it_t c1 hf
    refine lv_iconst (v := 5) hx hb dX1_popInto_17 (by decide) ?_
    exact w1_popInto_18 X hI hH (lv_sub hl [0, 1] rfl) hf
  · have hf := it_f c1 hf
    refine lv_aload_n hx hb dX1_popInto_8 rfl (lv_at hl 0 rfl) ?_
    refine cr_gHi X hH.1 (i := 1) (v := .int (mu 10 1)) (by decide) gfX1_18 rfl dX1_popInto_9 ?_
    refine lv_iconst (v := 1) hx hb dX1_popInto_12 (by decide) ?_
    refine lv_isub hx hb dX1_popInto_13 ?_
    refine lv_goto (tgt := 18) hx hb dX1_popInto_14 (by decide) ?_
    exact w1_popInto_18 X hI hH (lv_sub hl [0, 1] rfl) hf
set_option maxRecDepth 100000 in
set_option maxHeartbeats 4000000 in
theorem c1_popInto (l : Launch) {D : va_G} {Y : cYt} {ad : Nat → Nat} {mu : Nat → Nat → Int32} (hI : cInj ad) (sz : Nat) {t : (Nat → Nat → Int32)} (hf : f1_popInto_0 mu = some t) : Met l yX1_popInto uX1_popInto rm1_popInto (va_Pc [.ref (ad 151), .ref (ad (15 * 0))] (fun U => U.heap.size = sz ∧ cB D Y ad mu U)) (va_Qv (fun (_ : Unit) => True) (fun _ t9 => cB D Y ad t t9) (cA ad sz)) 0 0 (cA ad sz) := by
  refine Met.ofW (cc := cX1_popInto) (maxL := 2) (ret := none) (by decide) rfl ?_
  intro p e s m args below meth c s₁ B hml hv
  obtain ⟨rfl, hsz, hP, hK⟩ := hv
  subst hsz
  have X : cX D Y p s m ([.ref (ad 151), .ref (ad (15 * 0))] : List Value).toArray meth c cX1_popInto 2 RX1 none := ⟨⟨B.exec, B.bytes, hml, findClass_of_methodNamed B.named, fun w h => atoms_spec (ws := uX1_popInto) B.pre w (List.mem_cons_of_mem _ h)⟩, B.returns, B.notSynchronized, hK⟩
  have hl := lv_entry ([.ref (ad 151), .ref (ad (15 * 0))]) (n := 2) (Nat.le_of_ble_eq_true rfl)
  rw [lg_entry_eq]
  generalize (lg_sl ([.ref (ad 151), .ref (ad (15 * 0))]) ++ List.replicate (2 - (lg_sl ([.ref (ad 151), .ref (ad (15 * 0))])).length) Slot.unset).toArray = ls at hl ⊢
  have hl : lv_has ls 2 [(0, .ref (ad 151)), (1, .ref (ad (15 * 0)))] := hl
  exact w1_popInto_0 X hI ⟨hP, va_S.rf⟩ (lv_sub hl [0, 1] rfl) hf
set_option maxRecDepth 100000 in
set_option maxHeartbeats 4000000 in
theorem k1_popInto {p : Program} {l : Launch} {e : Env} {R : Room} {s : State} {m : MethodId} {args : Array Value} {below : List Frame} {meth : Method} {c : Code} {cc : ByteArray} {nL : Nat} {own : String} {ret : Option FieldType} {D : va_G} {Y : cYt} {ad : Nat → Nat} {mu : Nat → Nat → Int32} {H : Heap} {locs : List Loc} {cells slots : Nat} {Q : State → Prop} {pc : Nat} {ls : Array Slot} {rest : List Value} (X : cX D Y p s m args meth c cc nL own ret) (hI : cInj ad) (hH : cH D Y ad mu s H locs) (hls : ls.size = nL) {index : Nat} (hG : GoodIn gw (wsV own index RX1 yX1_popInto uX1_popInto)) (hR : rm1_popInto.frames + 1 ≤ R.frames ∧ 8 + (2 + 11) + rm1_popInto.locals ≤ R.locals) {t : (Nat → Nat → Int32)} (hf : f1_popInto_0 mu = some t) (hrest : (rest.map fun v => v.category).sum ≤ 8) (hdg : decode cc pc = .ok (.invokevirtual index, 3)) (hc : cells ≤ R.cells ∧ slots ≤ R.slots) (kk : ∀ (H1 : Heap) (locs1 : List Loc), cH D Y ad t s H1 locs1 → W p l e R s m args below meth c H1 locs1 cells slots Q (F0 m (pc + 3) ls (rest))) : W p l e R s m args below meth c H locs cells slots Q (F0 m pc ls (.ref (ad (15 * 0)) :: .ref (ad 151) :: rest)) := by
  have hA : ∀ q, cA ad H.size q → cA ad s.heap.size q := fun q h => h.elim Or.inl (fun h => Or.inr (Nat.le_trans hH.2.1 h))
  refine va_callv (va_runV (As := [.ref (ad (15 * 0))]) (rest := rest) X.1 (c1_popInto l hI H.size hf) (cwV 1 X.1.2.2.2.2 hG rfl rfl rfl (by decide +kernel) hR) ⟨cBs_bl, va_recv X.2.2.2 hH.1 (ci := 1) (q0 := 151) rfl (cw_ate (by omega) rfl), fun U hU hW => ⟨rfl, by rw [hU], by rw [hU]; exact hH.1, va_K.moved hW.alike X.2.2.2⟩⟩ rfl rfl hls rfl (lv_room hrest) hdg hc) hH.2 (fun q _ h => hA q h) hA (fun u t9 H1 locs1 ht hvm hw hB hz1 hk1 hS => ?_)
  exact kk H1 locs1 ⟨by rw [← ht]; exact hB.1, hS⟩
